/** Promise 6: order. */
public final class OrderTest {
    private static final Check check = new Check();

    public static void main(String[] args) {
        eachKindMovesItsOwn();
        edges();
        refuses();
        check.end();
    }

    private static void eachKindMovesItsOwn() {
        for (int what = 0; what < 3; what++) {
            CraneSite site = new CraneSite();
            site.order(1, what, 1);
            site.tick(1);
            check.equal("angle", site.look(1, 0), what == 0 ? 1 : 0);
            check.equal("trolley", site.look(1, 2), what == 1 ? 1 : 0);
            check.equal("hook", site.look(1, 3), what == 2 ? 1 : 0);
            check.equalRows("another crane", Check.look(site, 0), new int[8]);
            check.equalRows("another crane", Check.look(site, 2), new int[8]);
        }
    }

    private static void edges() {
        CraneSite site = new CraneSite();
        site.order(0, 0, -10);
        site.order(0, 1, 5);
        site.order(0, 2, 20);
        site.tick(20);
        check.equalRows("outwards and up", Check.look(site, 0), Check.row(3600 - 155, -10, 100, 400, 0, 0, 0, 0));
        site.order(0, 0, 10);
        site.order(0, 1, -5);
        site.order(0, 2, -20);
        site.tick(10);
        check.equalRows("inwards and down", Check.look(site, 0), Check.row(3600 - 200, 0, 50, 200, 0, 0, 0, 0));
        site.order(0, 0, 0);
        site.order(0, 1, 0);
        site.order(0, 2, 0);
        site.tick(10);
        check.equalRows("standing", Check.look(site, 0), Check.row(3600 - 200, 0, 50, 200, 0, 0, 0, 0));
    }

    private static void refuses() {
        CraneSite site = new CraneSite();
        int[] most = {10, 5, 20};
        for (int w = 0; w < 3; w++) {
            int what = w;
            check.refusesArgument("too much of " + what, () -> site.order(0, what, most[what] + 1));
            check.refusesArgument("too little of " + what, () -> site.order(0, what, -most[what] - 1));
            check.refusesArgument("crane -1", () -> site.order(-1, what, 0));
            check.refusesArgument("crane 3", () -> site.order(3, what, 0));
        }
        check.refusesArgument("what -1", () -> site.order(0, -1, 0));
        check.refusesArgument("what 3", () -> site.order(0, 3, 0));
        site.tick(5);
        check.equalRows("refused orders change nothing", Check.look(site, 0), new int[8]);
        check.refusesArgument("behind a tick", () -> site.order(0, 0, 11));
    }
}
