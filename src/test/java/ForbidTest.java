/** Promise 4: forbid. */
public final class ForbidTest {
    private static final Check check = new Check();

    public static void main(String[] args) {
        CraneSite site = new CraneSite();
        check.equal("first", site.forbid(0, 0, 1), 1);
        check.equal("second, the same", site.forbid(0, 0, 1), 2);
        check.equal("third", site.forbid(0, 3599, 3599), 3);
        check.equal("fourth", site.forbid(0, 1, 1), 4);
        check.refusesState("fifth", () -> site.forbid(0, 5, 5));
        check.equal("another crane has its own", site.forbid(1, 3599, 2), 1);
        check.equal("another crane has its own", site.forbid(2, 1, 3599), 1);
        check.equal("of crane 0 those at 0", site.look(0, 7), 3);
        check.equal("of crane 1 the one that goes around", site.look(1, 7), 1);
        check.equal("of crane 2 all but 0", site.look(2, 7), 0);

        wrongArguments(site);
        site.tick(1);
        wrongArguments(site);
        check.refusesState("behind a tick", () -> site.forbid(1, 5, 5));
        check.refusesState("behind a tick, a fifth", () -> site.forbid(0, 5, 5));
        check.end();
    }

    private static void wrongArguments(CraneSite site) {
        for (int crane = 0; crane < 2; crane++) {
            int c = crane;
            check.refusesArgument("from -1", () -> site.forbid(c, -1, 5));
            check.refusesArgument("from 3600", () -> site.forbid(c, 3600, 5));
            check.refusesArgument("size 0", () -> site.forbid(c, 5, 0));
            check.refusesArgument("size -1", () -> site.forbid(c, 5, -1));
            check.refusesArgument("size 3600", () -> site.forbid(c, 5, 3600));
        }
        check.refusesArgument("crane -1", () -> site.forbid(-1, 5, 5));
        check.refusesArgument("crane 3", () -> site.forbid(3, 5, 5));
    }
}
