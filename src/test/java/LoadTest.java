/** Promise 7: load. */
public final class LoadTest {
    private static final Check check = new Check();

    public static void main(String[] args) {
        CraneSite site = new CraneSite();
        site.load(0, 1000);
        site.load(2, 1);
        check.equal("greatest load", site.look(0, 4), 1000);
        check.equal("no load", site.look(1, 4), 0);
        check.equal("a load", site.look(2, 4), 1);
        check.equal("above a table without points", site.look(2, 6), 1);
        site.tick(2);
        site.load(0, 0);
        check.equal("behind ticks", site.look(0, 4), 0);
        check.equal("not above", site.look(0, 6), 0);

        check.refusesArgument("load -1", () -> site.load(2, -1));
        check.refusesArgument("load 1001", () -> site.load(2, 1001));
        check.refusesArgument("crane -1", () -> site.load(-1, 0));
        check.refusesArgument("crane 3", () -> site.load(3, 0));
        check.equal("a refused load changes nothing", site.look(2, 4), 1);
        check.end();
    }
}
