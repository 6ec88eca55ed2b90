/** Promise 10: look. */
public final class LookTest {
    private static final Check check = new Check();

    public static void main(String[] args) {
        refuses();
        everyAnswer();
        tableBetweenPoints();
        closedArcs();
        check.end();
    }

    private static void refuses() {
        CraneSite site = new CraneSite();
        check.refusesArgument("crane -1", () -> site.look(-1, 0));
        check.refusesArgument("crane 3", () -> site.look(3, 0));
        check.refusesArgument("what -1", () -> site.look(0, -1));
        check.refusesArgument("what 8", () -> site.look(0, 8));
    }

    private static void everyAnswer() {
        CraneSite site = new CraneSite();
        site.setUp(2, 3598);
        site.point(2, 0, 700);
        site.point(2, 100, 600);
        site.load(2, 650);
        site.forbid(2, 3590, 20);
        site.order(2, 0, 2);
        site.order(2, 1, 4);
        site.order(2, 2, 7);
        site.tick(2);
        check.equalRows("while it moves", Check.look(site, 2), Check.row(1, 2, 8, 14, 650, 692, 0, 1));
        site.load(2, 693);
        check.equalRows("overloaded", Check.look(site, 2), Check.row(1, 2, 8, 14, 693, 692, 1, 1));
        check.equalRows("another crane", Check.look(site, 1), new int[8]);
    }

    private static void tableBetweenPoints() {
        CraneSite site = new CraneSite();
        site.point(0, 2, 10);
        site.point(0, 5, 8);
        site.point(0, 8, 10);
        site.order(0, 1, 1);
        // 10 - 2/3 and 10 - 4/3 are rounded down, as are 8 + 2/3 and 8 + 4/3; beyond 8 there is nothing.
        int[] due = {10, 10, 10, 9, 8, 8, 8, 9, 10, 0, 0};
        for (int radius = 0; radius < due.length; radius++) {
            check.equal("load at " + radius, site.look(0, 5), due[radius]);
            site.tick(1);
        }
    }

    private static void closedArcs() {
        CraneSite site = new CraneSite();
        site.forbid(0, 0, 3);
        site.forbid(0, 3599, 2);
        site.forbid(0, 1, 1);
        site.share(0, 0, 2, 500, 10);
        site.share(1, 3000, 601, 500, 10);
        check.equal("two forbidden, two shared", site.look(0, 7), 4);
        site.tick(1);
        check.equal("of the shared it has the rights", site.look(0, 7), 2);
        site.order(0, 0, 1);
        site.tick(1);
        check.equal("it does not go into another one", site.look(0, 0), 0);
        site.order(0, 0, -1);
        site.tick(1);
        check.equal("one step back", site.look(0, 0), 3599);
        check.equal("one left", site.look(0, 7), 1);
    }
}
