/** Promise 9: the time, and slewing. */
public final class TickSlewTest {
    private static final Check check = new Check();

    public static void main(String[] args) {
        time();
        speedFollowsTheOrder();
        brakesAheadOfClosedArcs();
        startsOnlyWhereItCanStop();
        leavesAnArcThatItIsIn();
        brakesAheadOfAnotherArcThanItsOwn();
        brakesWhenNothingIsSafe();
        check.end();
    }

    private static void time() {
        CraneSite site = new CraneSite();
        check.refusesArgument("tick 0", () -> site.tick(0));
        check.refusesArgument("tick -1", () -> site.tick(-1));
        check.refusesArgument("tick 1001", () -> site.tick(1001));
        site.setUp(0, 1);
        check.equal("one tick", site.tick(1), 1);
        check.equal("a thousand more", site.tick(1000), 1001);
        check.refusesArgument("tick 0", () -> site.tick(0));
        check.equal("a refused tick is none", site.tick(2), 1003);
    }

    private static void speedFollowsTheOrder() {
        CraneSite site = new CraneSite();
        site.order(2, 0, 3);
        turns(site, 2, Check.row(1, 3, 6, 9, 12), Check.row(1, 2, 3, 3, 3));
        site.order(2, 0, -2);
        turns(site, 2, Check.row(14, 15, 15, 14, 12, 10), Check.row(2, 1, 0, -1, -2, -2));
        site.order(2, 0, 0);
        turns(site, 2, Check.row(9, 9, 9), Check.row(-1, 0, 0));
        site.order(2, 0, -10);
        site.tick(12);
        check.equal("around backwards", site.look(2, 0), 3600 + 9 - 75);
        check.equal("greatest speed backwards", site.look(2, 1), -10);
        site.order(2, 0, 10);
        site.tick(30);
        check.equal("around forwards", site.look(2, 0), 3534 - 45 + 55 + 100 - 3600);
        check.equal("greatest speed", site.look(2, 1), 10);
    }

    private static void turns(CraneSite site, int crane, int[] angles, int[] speeds) {
        for (int i = 0; i < angles.length; i++) {
            site.tick(1);
            check.equal("angle " + i, site.look(crane, 0), angles[i]);
            check.equal("speed " + i, site.look(crane, 1), speeds[i]);
        }
    }

    private static void brakesAheadOfClosedArcs() {
        CraneSite site = new CraneSite();
        site.forbid(0, 20, 1);
        site.order(0, 0, 10);
        // At 10 a speed of 4 would end at 20, so it brakes to 3; at 13 a speed of 3 ends at 19.
        turns(site, 0, Check.row(1, 3, 6, 10, 13, 16, 18, 19, 19), Check.row(1, 2, 3, 4, 3, 3, 2, 1, 0));

        CraneSite around = new CraneSite();
        around.setUp(1, 3500);
        around.forbid(1, 5, 3);
        around.setUp(2, 100);
        around.forbid(2, 3400, 100);
        around.order(1, 0, 10);
        around.order(2, 0, -10);
        around.tick(200);
        check.equal("stops ahead of it forwards", around.look(1, 0), 4);
        check.equal("stops ahead of it backwards", around.look(2, 0), 3500);
        check.equal("stands", around.look(2, 1), 0);
    }

    private static void startsOnlyWhereItCanStop() {
        CraneSite site = new CraneSite();
        site.setUp(0, 10);
        site.forbid(0, 11, 1);
        site.forbid(0, 8, 1);
        site.order(0, 0, 10);
        turns(site, 0, Check.row(10, 10), Check.row(0, 0));
        site.order(0, 0, -10);
        turns(site, 0, Check.row(9, 9, 9), Check.row(-1, 0, 0));
    }

    private static void leavesAnArcThatItIsIn() {
        CraneSite site = new CraneSite();
        site.setUp(0, 120);
        site.forbid(0, 100, 50);
        check.equal("in a closed arc", site.look(0, 7), 1);
        site.order(0, 0, 10);
        site.tick(20);
        check.equal("left it", site.look(0, 0), 120 + 155);
        site.order(0, 0, -10);
        site.tick(100);
        check.equal("and stops ahead of it", site.look(0, 0), 150);
    }

    private static void brakesAheadOfAnotherArcThanItsOwn() {
        CraneSite site = new CraneSite();
        site.setUp(0, 120);
        site.forbid(0, 100, 50);
        site.forbid(0, 140, 100);
        site.order(0, 0, 10);
        site.tick(100);
        check.equal("ahead of one that begins in its own", site.look(0, 0), 139);

        CraneSite apart = new CraneSite();
        apart.setUp(0, 120);
        apart.forbid(0, 100, 50);
        apart.forbid(0, 160, 100);
        apart.order(0, 0, 10);
        apart.tick(100);
        check.equal("ahead of one behind its own", apart.look(0, 0), 159);
    }

    private static void brakesWhenNothingIsSafe() {
        CraneSite site = new CraneSite();
        // Only the angles 5 .. 9 are out of it: at full speed the crane comes there and can't stop.
        site.forbid(0, 10, 3595);
        site.setUp(0, 3500);
        site.order(0, 0, 10);
        site.tick(14);
        check.equal("in the arc at full speed", site.look(0, 0), 3595);
        turns(site, 0, Check.row(5, 14, 24), Check.row(10, 9, 10));

        CraneSite back = new CraneSite();
        back.forbid(0, 10, 3595);
        back.setUp(0, 114);
        back.order(0, 0, -10);
        back.tick(14);
        check.equal("in the arc at full speed backwards", back.look(0, 0), 19);
        turns(back, 0, Check.row(9, 0, 3590), Check.row(-10, -9, -10));
    }
}
