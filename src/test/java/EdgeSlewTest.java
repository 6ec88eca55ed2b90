/** Terms: the sentences on slewing. */
public final class EdgeSlewTest {
    private static final Check check = new Check();

    public static void main(String[] args) {
        check.sentence("a SPEED (-10 .. 10, 0 at first)", EdgeSlewTest::greatestSpeeds);
        check.sentence("of the speeds that are at most one off the one that it has", EdgeSlewTest::oneOff);
        check.sentence("the nearest to the order of those that are SAFE", EdgeSlewTest::nearestToTheOrder);
        check.sentence("of the same nearness the one nearer to 0", EdgeSlewTest::sameNearness);
        check.sentence("when none is safe, one nearer to 0", EdgeSlewTest::noneIsSafe);
        check.sentence("when none is safe .. (0 of 0)", EdgeSlewTest::zeroOfZero);
        check.sentence("gone over if it turns by v in this tick", EdgeSlewTest::firstStep);
        check.sentence("and then, braking by one each tick, by what is left", EdgeSlewTest::brakingWay);
        check.sentence("none of the angles .. is in a closed arc", EdgeSlewTest::arcIsNotLeaptOver);
        check.sentence("none of the angles .. around", EdgeSlewTest::brakingAround);
        check.sentence("but angles of arcs that it is in now", EdgeSlewTest::leavesItsOwn);
        check.sentence("but .. arcs that it is in now, and no others", EdgeSlewTest::othersCloseAllTheSame);
        check.sentence("but .. now", EdgeSlewTest::ownNoMore);
        check.end();
    }

    private static void turns(CraneSite site, int[] speeds) {
        int angle = site.look(0, 0);
        for (int i = 0; i < speeds.length; i++) {
            site.tick(1);
            angle = Math.floorMod(angle + speeds[i], 3600);
            check.equal("speed " + i, site.look(0, 1), speeds[i]);
            check.equal("angle " + i, site.look(0, 0), angle);
        }
    }

    /** A crane at 0 that comes to the full speed of the sense and is 65 further then. */
    private static CraneSite atFullSpeed(int sense, int from, int size) {
        CraneSite site = new CraneSite();
        site.forbid(0, from, size);
        site.order(0, 0, 10 * sense);
        site.tick(11);
        check.equal("ran up", site.look(0, 0), Math.floorMod(65 * sense, 3600));
        check.equal("full speed", site.look(0, 1), 10 * sense);
        return site;
    }

    private static void greatestSpeeds() {
        CraneSite site = new CraneSite();
        check.equal("at first", site.look(0, 1), 0);
        site.order(0, 0, 10);
        turns(site, Check.row(1, 2, 3, 4, 5, 6, 7, 8, 9, 10, 10, 10));
        CraneSite back = new CraneSite();
        back.order(0, 0, -10);
        turns(back, Check.row(-1, -2, -3, -4, -5, -6, -7, -8, -9, -10, -10, -10));
    }

    private static void oneOff() {
        CraneSite site = new CraneSite();
        site.order(0, 0, 2);
        turns(site, Check.row(1, 2, 2));
        site.order(0, 0, -2);
        turns(site, Check.row(1, 0, -1, -2, -2));
        site.order(0, 0, 10);
        turns(site, Check.row(-1, 0, 1, 2, 3));
        site.order(0, 0, 0);
        turns(site, Check.row(2, 1, 0, 0));
    }

    private static void nearestToTheOrder() {
        CraneSite site = new CraneSite();
        site.forbid(0, 8, 1);
        site.order(0, 0, 10);
        // At 3 a speed of 3 would end at 9, at 5 one of 2 would end at 8.
        turns(site, Check.row(1, 2, 2, 1, 1, 0, 0));
        CraneSite back = new CraneSite();
        back.forbid(0, 3592, 1);
        back.order(0, 0, -10);
        turns(back, Check.row(-1, -2, -2, -1, -1, 0, 0));
    }

    /** The faster one is never safe where the order itself is not, so the nearer to 0 is the slower. */
    private static void sameNearness() {
        CraneSite site = new CraneSite();
        site.order(0, 0, 3);
        site.forbid(0, 11, 1);
        turns(site, Check.row(1, 2, 3, 2, 1, 1, 0));
        CraneSite back = new CraneSite();
        back.order(0, 0, -3);
        back.forbid(0, 3589, 1);
        turns(back, Check.row(-1, -2, -3, -2, -1, -1, 0));
    }

    /** A crane that comes out of an arc to the one angle that is not in it, and can't stop there. */
    private static CraneSite throughTheGap(int start, int order, int ticks) {
        CraneSite site = new CraneSite();
        site.setUp(0, start);
        site.forbid(0, 1, 3599);
        site.order(0, 0, order);
        site.tick(ticks);
        check.equal("in the gap", site.look(0, 0), 0);
        check.equal("at speed", site.look(0, 1), order);
        return site;
    }

    private static void noneIsSafe() {
        turns(throughTheGap(3600 - 65, 10, 11), Check.row(9, 10, 10));
        turns(throughTheGap(65, -10, 11), Check.row(-9, -10, -10));
        turns(throughTheGap(3600 - 3, 2, 2), Check.row(1, 2, 2));
        turns(throughTheGap(3, -2, 2), Check.row(-1, -2, -2));
        CraneSite turnedBack = throughTheGap(3600 - 3, 2, 2);
        turnedBack.order(0, 0, -10);
        turns(turnedBack, Check.row(1, 0, -1, 0));
    }

    private static void zeroOfZero() {
        for (int order : Check.row(10, 1, 0, -1, -10)) {
            CraneSite site = new CraneSite();
            site.forbid(0, 1, 3599);
            site.order(0, 0, order);
            turns(site, Check.row(0, 0, 0));
        }
        turns(throughTheGap(3599, 1, 1), Check.row(0, 0, 0));
        turns(throughTheGap(1, -1, 1), Check.row(0, 0, 0));
    }

    private static void firstStep() {
        CraneSite next = new CraneSite();
        next.forbid(0, 1, 1);
        next.order(0, 0, 10);
        turns(next, Check.row(0, 0));
        CraneSite oneFree = new CraneSite();
        oneFree.forbid(0, 2, 1);
        oneFree.order(0, 0, 10);
        turns(oneFree, Check.row(1, 0, 0));
        CraneSite back = new CraneSite();
        back.forbid(0, 3599, 1);
        back.order(0, 0, -10);
        turns(back, Check.row(0, 0));
        CraneSite oneFreeBack = new CraneSite();
        oneFreeBack.forbid(0, 3598, 1);
        oneFreeBack.order(0, 0, -10);
        turns(oneFreeBack, Check.row(-1, 0, 0));
    }

    /** From full speed it takes 10 + 9 + .. + 1 = 55 angles to stand. */
    private static void brakingWay() {
        int[] straight = {10, 9, 8, 7, 6, 5, 4, 3, 2, 1, 0, 0};
        int[] oneShort = {9, 9, 8, 7, 6, 5, 4, 3, 2, 1, 0, 0};
        turns(atFullSpeed(1, 65 + 56, 100), straight);
        turns(atFullSpeed(1, 65 + 55, 100), oneShort);
        int[] straightBack = {-10, -9, -8, -7, -6, -5, -4, -3, -2, -1, 0, 0};
        int[] oneShortBack = {-9, -9, -8, -7, -6, -5, -4, -3, -2, -1, 0, 0};
        turns(atFullSpeed(-1, 3600 - 65 - 56, 1), straightBack);
        turns(atFullSpeed(-1, 3600 - 65 - 55, 1), oneShortBack);
        // Backwards it is the last angle that it would come to first.
        turns(atFullSpeed(-1, 3600 - 65 - 56 - 99, 100), straightBack);
        turns(atFullSpeed(-1, 3600 - 65 - 55 - 99, 100), oneShortBack);
    }

    /** An arc of one angle is gone over even where no tick ends in it. */
    private static void arcIsNotLeaptOver() {
        CraneSite site = atFullSpeed(1, 125, 1);
        site.tick(100);
        check.equal("stands ahead of it", site.look(0, 0), 124);
        site.order(0, 0, -10);
        site.tick(1000);
        check.equal("and on its other side", site.look(0, 0), 126);
    }

    private static void brakingAround() {
        for (int from : Check.row(3599, 0, 1, 30)) {
            CraneSite site = new CraneSite();
            site.setUp(0, 3480);
            site.forbid(0, from, 1);
            site.order(0, 0, 10);
            site.tick(200);
            check.equal("ahead of " + from, site.look(0, 0), (from + 3599) % 3600);
            CraneSite back = new CraneSite();
            back.setUp(0, 150);
            back.forbid(0, from, 1);
            back.order(0, 0, -10);
            back.tick(200);
            check.equal("backwards ahead of " + from, back.look(0, 0), from + 1 == 3600 ? 0 : from + 1);
        }
    }

    private static void leavesItsOwn() {
        for (int start : Check.row(0, 5, 9)) {
            for (int sense : Check.row(1, -1)) {
                CraneSite site = new CraneSite();
                site.setUp(0, start);
                site.forbid(0, 0, 10);
                site.order(0, 0, 10 * sense);
                site.tick(10);
                check.equal("not braked from " + start, site.look(0, 0), Math.floorMod(start + 55 * sense, 3600));
            }
        }
        CraneSite shared = new CraneSite();
        shared.share(0, 1000, 5, 3595, 10);
        shared.fate(0);
        shared.order(1, 0, 10);
        shared.tick(4);
        check.equal("a shared one without the right", shared.look(1, 0), 10);
        check.equal("is left too", shared.pair(0, 1), 3);
    }

    private static void othersCloseAllTheSame() {
        CraneSite behind = new CraneSite();
        behind.forbid(0, 0, 10);
        behind.forbid(0, 10, 10);
        behind.order(0, 0, 10);
        behind.tick(50);
        check.equal("one that begins where its own ends", behind.look(0, 0), 9);
        CraneSite over = new CraneSite();
        over.forbid(0, 0, 10);
        over.forbid(0, 5, 10);
        over.order(0, 0, 10);
        over.tick(50);
        check.equal("one that lies over its own", over.look(0, 0), 4);
        CraneSite open = new CraneSite();
        open.share(0, 0, 20, 1000, 5);
        open.forbid(0, 10, 5);
        open.order(0, 0, 10);
        open.tick(50);
        check.equal("one inside an open one that it is in", open.look(0, 0), 9);
    }

    private static void ownNoMore() {
        CraneSite site = new CraneSite();
        site.setUp(0, 9);
        site.forbid(0, 0, 10);
        site.order(0, 0, 1);
        site.tick(1);
        site.order(0, 0, 0);
        site.tick(1);
        check.equal("out of it by one", site.look(0, 0), 10);
        site.order(0, 0, -10);
        turns(site, Check.row(0, 0, 0));
    }
}
