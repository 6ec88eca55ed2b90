/** Terms: the sentences on angles, arcs, and what it is to be in one. */
public final class EdgeArcTest {
    private static final Check check = new Check();

    public static void main(String[] args) {
        check.sentence("CRANES 0, 1, 2.", EdgeArcTest::threeCranes);
        check.sentence("ANGLES are tenths of a degree, 0 .. 3599, around", EdgeArcTest::around);
        check.sentence("an ARC has the angles from one on", EdgeArcTest::firstAndLastAngle);
        check.sentence("so many (1 .. 3599): the least", EdgeArcTest::leastArc);
        check.sentence("so many (1 .. 3599): the greatest", EdgeArcTest::greatestArc);
        check.sentence("an ARC .. around", EdgeArcTest::arcAround);
        check.sentence("ARCS of a crane: up to 4 FORBIDDEN ones.", EdgeArcTest::allArcsBind);
        check.sentence("PAIRS 0 (cranes 0, 1), 1 (0, 2), 2 (1, 2)", EdgeArcTest::cranesOfPairs);
        check.sentence("may have a SHARED arc on both cranes each", EdgeArcTest::pairWithoutArc);
        check.sentence("A crane is IN an arc when its angle is one of it.", EdgeArcTest::inSharedArcs);
        check.sentence("forbidden, or shared and the crane has not the RIGHT", EdgeArcTest::closed);
        check.sentence("one that it is in already is closed all the same", EdgeArcTest::closedAround);
        check.end();
    }

    private static void threeCranes() {
        CraneSite site = new CraneSite();
        for (int crane = 0; crane < 3; crane++) {
            site.setUp(crane, 10 * crane + 10);
            site.order(crane, 0, 1);
        }
        site.tick(1);
        for (int crane = 0; crane < 3; crane++) {
            check.equal("angle of crane " + crane, site.look(crane, 0), 10 * crane + 11);
        }
    }

    private static void around() {
        CraneSite site = new CraneSite();
        site.setUp(0, 3599);
        site.order(0, 0, 1);
        site.order(1, 0, -1);
        site.tick(1);
        check.equal("behind 3599", site.look(0, 0), 0);
        check.equal("below 0", site.look(1, 0), 3599);
        CraneSite fast = new CraneSite();
        fast.setUp(0, 3540);
        fast.setUp(1, 60);
        fast.order(0, 0, 10);
        fast.order(1, 0, -10);
        fast.tick(10);
        check.equal("short of it", fast.look(0, 0), 3595);
        check.equal("short of it backwards", fast.look(1, 0), 5);
        fast.tick(1);
        check.equal("over it at once", fast.look(0, 0), 5);
        check.equal("over it backwards", fast.look(1, 0), 3595);
    }

    private static int closedArcsAt(int angle, int from, int size) {
        CraneSite site = new CraneSite();
        site.setUp(0, angle);
        site.forbid(0, from, size);
        return site.look(0, 7);
    }

    private static void firstAndLastAngle() {
        check.equal("one below", closedArcsAt(99, 100, 50), 0);
        check.equal("the first", closedArcsAt(100, 100, 50), 1);
        check.equal("the last", closedArcsAt(149, 100, 50), 1);
        check.equal("one beyond", closedArcsAt(150, 100, 50), 0);
        check.equal("the first at 0", closedArcsAt(0, 0, 10), 1);
        check.equal("one below 0", closedArcsAt(3599, 0, 10), 0);
        check.equal("the last at 3599", closedArcsAt(3599, 3590, 10), 1);
        check.equal("one beyond 3599", closedArcsAt(0, 3590, 10), 0);
    }

    private static void leastArc() {
        for (int from : Check.row(0, 1, 1800, 3599)) {
            check.equal("its one angle " + from, closedArcsAt(from, from, 1), 1);
            check.equal("one below " + from, closedArcsAt((from + 3599) % 3600, from, 1), 0);
            check.equal("one beyond " + from, closedArcsAt((from + 1) % 3600, from, 1), 0);
        }
    }

    private static void greatestArc() {
        for (int from : Check.row(0, 1, 1800, 3599)) {
            check.equal("first " + from, closedArcsAt(from, from, 3599), 1);
            check.equal("last " + from, closedArcsAt((from + 3598) % 3600, from, 3599), 1);
            check.equal("across from " + from, closedArcsAt((from + 1800) % 3600, from, 3599), 1);
            check.equal("the only one out of it " + from, closedArcsAt((from + 3599) % 3600, from, 3599), 0);
        }
    }

    private static void arcAround() {
        check.equal("one below", closedArcsAt(3597, 3598, 4), 0);
        check.equal("the first", closedArcsAt(3598, 3598, 4), 1);
        check.equal("the last one below 0", closedArcsAt(3599, 3598, 4), 1);
        check.equal("0", closedArcsAt(0, 3598, 4), 1);
        check.equal("the last", closedArcsAt(1, 3598, 4), 1);
        check.equal("one beyond", closedArcsAt(2, 3598, 4), 0);
    }

    /** Each of the six arcs that a crane can have is the only one ahead of it once. */
    private static void allArcsBind() {
        for (int place = 0; place < 6; place++) {
            CraneSite site = new CraneSite();
            int start = 100 * place + 50;
            site.setUp(0, start);
            for (int i = 0; i < 4; i++) {
                site.forbid(0, 100 * (i + 1), 1);
            }
            // Crane 1 and crane 2 have these rights before the keeper comes near.
            site.share(0, 500, 1, 0, 1);
            site.share(1, 600, 1, 0, 1);
            site.tick(3);
            site.order(0, 0, 10);
            site.tick(60);
            check.equal("ahead of arc " + place, site.look(0, 0), start + 49);
        }
    }

    private static void cranesOfPairs() {
        int[] keepers = {0, 0, 1};
        int[] askers = {1, 2, 2};
        for (int pair = 0; pair < 3; pair++) {
            CraneSite site = new CraneSite();
            site.setUp(keepers[pair], 50);
            site.setUp(askers[pair], 70);
            site.share(pair, 50, 1, 70, 1);
            check.equalRows("pair " + pair, Check.pair(site, pair), Check.row(0, 0, 0, 1, 1));
            int third = 3 - keepers[pair] - askers[pair];
            for (int crane = 0; crane < 3; crane++) {
                check.equal("arcs of crane " + crane, site.look(crane, 7), crane == third ? 0 : 1);
            }
        }
    }

    private static void pairWithoutArc() {
        CraneSite site = new CraneSite();
        site.share(1, 1000, 1, 1000, 1);
        for (int crane = 0; crane < 3; crane++) {
            site.order(crane, 0, 1);
        }
        site.tick(100);
        check.equalRows("pair 0", Check.pair(site, 0), Check.row(0, 0, 100, 0, 0));
        check.equalRows("pair 2", Check.pair(site, 2), Check.row(0, 0, 100, 0, 0));
        check.equal("only crane 2 of pair 1 sends", site.bus(1), 10);
    }

    private static void inSharedArcs() {
        int[] angles = {2999, 3000, 3599, 0, 399, 400};
        int[] in = {0, 1, 1, 1, 1, 0};
        for (int i = 0; i < angles.length; i++) {
            CraneSite site = new CraneSite();
            site.setUp(1, angles[i]);
            site.setUp(2, angles[i]);
            site.share(2, 3000, 1000, 1500, 1);
            check.equal("keeper at " + angles[i], site.pair(2, 3), in[i]);
            check.equal("asker at " + angles[i], site.pair(2, 4), 0);
            CraneSite other = new CraneSite();
            other.setUp(1, angles[i]);
            other.setUp(2, angles[i]);
            other.share(2, 1500, 1, 3000, 1000);
            check.equal("keeper at " + angles[i], other.pair(2, 3), 0);
            check.equal("asker at " + angles[i], other.pair(2, 4), in[i]);
        }
    }

    private static void closed() {
        CraneSite site = new CraneSite();
        site.share(0, 1000, 5, 0, 5);
        check.equal("shared, without the right", site.look(1, 7), 1);
        site.tick(2);
        check.equal("the keeper counts it as the asker's", site.pair(0, 0), 2);
        check.equal("but GRANT has not come", site.look(1, 7), 1);
        site.tick(1);
        check.equal("with the right it is open", site.look(1, 7), 0);

        CraneSite keeper = new CraneSite();
        keeper.share(0, 0, 5, 1000, 5);
        check.equal("shared, without the right", keeper.look(0, 7), 1);
        keeper.tick(1);
        check.equal("with the right it is open", keeper.look(0, 7), 0);
    }

    private static void closedAround() {
        CraneSite site = new CraneSite();
        site.forbid(0, 3590, 20);
        site.forbid(0, 0, 1);
        site.share(0, 0, 5, 0, 5);
        site.share(1, 3599, 2, 0, 5);
        check.equal("all four", site.look(0, 7), 4);
        check.equal("the asker in its arc", site.look(1, 7), 1);
        site.tick(50);
        check.equal("the forbidden ones stay closed", site.look(0, 7), 2);
        check.equal("and so does the asker's without the right", site.look(1, 7), 1);
    }
}
