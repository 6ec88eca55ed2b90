/** Promise 3: point. */
public final class PointTest {
    private static final Check check = new Check();

    public static void main(String[] args) {
        countsToEight();
        refusesWrongArguments();
        refusedPointsAreNotKept();
        pointsMayComeBehindTicks();
        check.end();
    }

    private static void countsToEight() {
        CraneSite site = new CraneSite();
        for (int i = 0; i < 8; i++) {
            check.equal("point " + i, site.point(1, i * 700, 1000 - i), i + 1);
        }
        check.refusesState("a ninth point", () -> site.point(1, 6000, 0));
        check.refusesArgument("a ninth that does not rise", () -> site.point(1, 4900, 0));
        check.refusesArgument("a ninth of no such load", () -> site.point(1, 6000, 1001));
        check.equal("another crane has its own", site.point(0, 6000, 1000), 1);
        check.equal("another crane has its own", site.point(2, 0, 0), 1);
    }

    private static void refusesWrongArguments() {
        CraneSite site = new CraneSite();
        check.refusesArgument("crane -1", () -> site.point(-1, 0, 0));
        check.refusesArgument("crane 3", () -> site.point(3, 0, 0));
        check.refusesArgument("radius -1", () -> site.point(0, -1, 0));
        check.refusesArgument("radius 6001", () -> site.point(0, 6001, 0));
        check.refusesArgument("load -1", () -> site.point(0, 0, -1));
        check.refusesArgument("load 1001", () -> site.point(0, 0, 1001));
        check.equal("least radius, greatest load", site.point(0, 0, 1000), 1);
        check.refusesArgument("the same radius", () -> site.point(0, 0, 999));
        check.equal("greatest radius, a load that rises", site.point(0, 6000, 1000), 2);
        check.refusesArgument("a smaller radius", () -> site.point(0, 5999, 1));
        check.refusesArgument("the same radius at the end", () -> site.point(0, 6000, 1));
    }

    private static void refusedPointsAreNotKept() {
        CraneSite site = new CraneSite();
        site.point(0, 100, 500);
        check.refusesArgument("the same radius", () -> site.point(0, 100, 300));
        check.equal("load at 0", site.look(0, 5), 500);
        check.equal("the next point", site.point(0, 101, 300), 2);
    }

    private static void pointsMayComeBehindTicks() {
        CraneSite site = new CraneSite();
        site.tick(3);
        check.equal("load without points", site.look(2, 5), 0);
        check.equal("point behind ticks", site.point(2, 50, 7), 1);
        check.equal("load with it", site.look(2, 5), 7);
    }
}
