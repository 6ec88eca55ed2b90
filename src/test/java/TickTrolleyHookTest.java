/** Promise 9: trolley and hook. */
public final class TickTrolleyHookTest {
    private static final Check check = new Check();

    public static void main(String[] args) {
        trolleyStopsWhereTheTableFalls();
        trolleyKeepsToItsEnds();
        trolleyAtTheEndIsWeighedThere();
        trolleyMayComeInOverloaded();
        hookKeepsToItsEnds();
        hookDoesNotRiseOverloaded();
        trolleyGoesBeforeTheHook();
        check.end();
    }

    private static void trolleyStopsWhereTheTableFalls() {
        CraneSite site = new CraneSite();
        site.point(0, 1000, 500);
        site.point(0, 2000, 0);
        site.load(0, 500);
        site.order(0, 1, 3);
        site.tick(333);
        check.equal("goes out", site.look(0, 2), 999);
        site.tick(5);
        check.equal("not at all when 1002 bears less", site.look(0, 2), 999);
        site.order(0, 1, 1);
        site.tick(5);
        check.equal("one step bears it", site.look(0, 2), 1000);
        site.load(0, 499);
        site.tick(5);
        check.equal("499.5 and 499 bear 499, 498.5 does not", site.look(0, 2), 1002);
        check.equal("not overloaded there", site.look(0, 6), 0);
        site.load(0, 0);
        site.order(0, 1, 5);
        site.tick(1000);
        check.equal("without load beyond the table", site.look(0, 2), 6000);
    }

    private static void trolleyKeepsToItsEnds() {
        CraneSite site = new CraneSite();
        site.order(0, 1, 4);
        site.tick(1);
        site.order(0, 1, 5);
        site.tick(1000);
        site.tick(199);
        check.equal("near the end", site.look(0, 2), 5999);
        site.tick(1);
        check.equal("at the end", site.look(0, 2), 6000);
        site.tick(3);
        check.equal("no further", site.look(0, 2), 6000);
        site.order(0, 1, -1);
        site.tick(2);
        site.order(0, 1, -5);
        site.tick(1000);
        site.tick(199);
        check.equal("near the tower", site.look(0, 2), 3);
        site.tick(2);
        check.equal("at the tower", site.look(0, 2), 0);
    }

    private static void trolleyAtTheEndIsWeighedThere() {
        CraneSite site = new CraneSite();
        site.point(0, 5999, 10);
        site.point(0, 6000, 5);
        site.load(0, 6);
        site.order(0, 1, 4);
        site.tick(1);
        site.order(0, 1, 5);
        site.tick(1000);
        site.tick(210);
        check.equal("6000 does not bear it", site.look(0, 2), 5999);
        site.load(0, 5);
        site.tick(1);
        check.equal("6000 bears it", site.look(0, 2), 6000);
    }

    private static void trolleyMayComeInOverloaded() {
        CraneSite site = new CraneSite();
        site.order(1, 1, 5);
        site.tick(10);
        site.load(1, 1000);
        site.tick(1);
        check.equal("not outwards", site.look(1, 2), 50);
        site.order(1, 1, -5);
        site.tick(1);
        check.equal("inwards", site.look(1, 2), 45);
        check.equal("overloaded all the same", site.look(1, 6), 1);
    }

    private static void hookKeepsToItsEnds() {
        CraneSite site = new CraneSite();
        site.order(0, 2, -20);
        site.tick(1);
        check.equal("on the ground", site.look(0, 3), 0);
        site.order(0, 2, 19);
        site.tick(421);
        check.equal("near the top", site.look(0, 3), 7999);
        site.tick(2);
        check.equal("at the top", site.look(0, 3), 8000);
        site.order(0, 2, -19);
        site.tick(421);
        check.equal("near the ground", site.look(0, 3), 1);
        site.tick(2);
        check.equal("on the ground", site.look(0, 3), 0);
    }

    private static void hookDoesNotRiseOverloaded() {
        CraneSite site = new CraneSite();
        site.point(0, 10, 300);
        site.load(0, 300);
        site.order(0, 2, 20);
        site.tick(2);
        check.equal("as much as it bears", site.look(0, 3), 40);
        site.load(0, 301);
        site.tick(2);
        check.equal("overloaded", site.look(0, 3), 40);
        site.order(0, 2, -20);
        site.tick(1);
        check.equal("down it goes", site.look(0, 3), 20);
    }

    private static void trolleyGoesBeforeTheHook() {
        CraneSite site = new CraneSite();
        site.point(0, 100, 50);
        site.point(0, 105, 40);
        site.order(0, 1, 5);
        site.tick(21);
        site.load(0, 50);
        check.equal("overloaded", site.look(0, 6), 1);
        site.order(0, 1, -5);
        site.order(0, 2, 20);
        site.tick(1);
        check.equal("trolley", site.look(0, 2), 100);
        check.equal("hook in the same tick", site.look(0, 3), 20);
    }
}
