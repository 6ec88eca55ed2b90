/** Promise 2: setUp. */
public final class SetUpTest {
    private static final Check check = new Check();

    public static void main(String[] args) {
        CraneSite site = new CraneSite();
        site.setUp(0, 3599);
        site.setUp(1, 1);
        site.setUp(2, 1800);
        check.equal("angle 0", site.look(0, 0), 3599);
        check.equal("angle 1", site.look(1, 0), 1);
        check.equal("angle 2", site.look(2, 0), 1800);
        site.setUp(0, 0);
        check.equal("the latest setUp counts", site.look(0, 0), 0);

        wrongArguments(site);
        check.equal("a refused setUp changes nothing", site.look(1, 0), 1);

        site.tick(1);
        wrongArguments(site);
        check.refusesState("setUp behind a tick", () -> site.setUp(0, 5));
        check.refusesState("setUp behind a tick", () -> site.setUp(2, 1800));
        check.equal("a refused setUp changes nothing", site.look(0, 0), 0);
        check.end();
    }

    private static void wrongArguments(CraneSite site) {
        check.refusesArgument("crane -1", () -> site.setUp(-1, 0));
        check.refusesArgument("crane 3", () -> site.setUp(3, 0));
        check.refusesArgument("angle -1", () -> site.setUp(1, -1));
        check.refusesArgument("angle 3600", () -> site.setUp(1, 3600));
        check.refusesArgument("least ints", () -> site.setUp(Integer.MIN_VALUE, Integer.MIN_VALUE));
        check.refusesArgument("greatest angle", () -> site.setUp(0, Integer.MAX_VALUE));
    }
}
