/** Promises 2 to 5 and 8: the sentences that say when a call comes too late or finds no room. */
public final class EdgeStateTest {
    private static final Check check = new Check();

    public static void main(String[] args) {
        check.sentence("setUp: IllegalStateException: a tick was", EdgeStateTest::setUpBehindATick);
        check.sentence("point: IllegalStateException: there are 8", EdgeStateTest::ninthPoint);
        check.sentence("forbid: IllegalStateException: there are 4", EdgeStateTest::fifthForbidden);
        check.sentence("forbid: IllegalStateException: .. or a tick was", EdgeStateTest::forbidBehindATick);
        check.sentence("share: IllegalStateException: it has one", EdgeStateTest::secondShared);
        check.sentence("share: IllegalStateException: .. or a tick was", EdgeStateTest::shareBehindATick);
        check.sentence("fate: IllegalStateException: there are 100", EdgeStateTest::fullOfFates);
        check.sentence("An object is used for at most 512 calls", EdgeStateTest::theLongestUse);
        check.end();
    }

    private static CraneSite behindATick() {
        CraneSite site = new CraneSite();
        site.tick(1);
        return site;
    }

    private static void setUpBehindATick() {
        CraneSite site = new CraneSite();
        site.setUp(0, 5);
        site.setUp(0, 6);
        check.refusesArgument("tick 0", () -> site.tick(0));
        site.setUp(1, 7);
        check.equalRows("a refused tick was none", Check.row(site.look(0, 0), site.look(1, 0)), Check.row(6, 7));
        site.tick(1);
        for (int c = 0; c < 3; c++) {
            int crane = c;
            int[] before = Check.all(site);
            check.refusesState("crane " + crane, () -> site.setUp(crane, 5));
            check.refusesState("crane " + crane, () -> site.setUp(crane, site.look(crane, 0)));
            check.equalRows("nothing changes", Check.all(site), before);
        }
    }

    private static void ninthPoint() {
        CraneSite site = new CraneSite();
        for (int i = 1; i <= 7; i++) {
            check.equal("point " + i, site.point(0, i, 100), i);
        }
        check.equal("the eighth has room", site.point(0, 8, 100), 8);
        check.refusesState("the ninth", () -> site.point(0, 9, 100));
        check.refusesState("the ninth again", () -> site.point(0, 6000, 1000));
        site.order(0, 1, 1);
        site.tick(8);
        check.equal("load at the eighth", site.look(0, 5), 100);
        site.tick(1);
        check.equal("the ninth is not there", site.look(0, 5), 0);
        check.refusesState("the ninth behind ticks", () -> site.point(0, 10, 100));
        check.equal("another crane has room", site.point(1, 9, 100), 1);
    }

    private static void fifthForbidden() {
        CraneSite site = new CraneSite();
        for (int i = 1; i <= 3; i++) {
            check.equal("forbidden " + i, site.forbid(0, 0, 1), i);
        }
        check.equal("the fourth has room", site.forbid(0, 0, 1), 4);
        check.refusesState("the fifth", () -> site.forbid(0, 0, 1));
        check.equal("four bind", site.look(0, 7), 4);
        check.equal("another crane has room", site.forbid(1, 0, 1), 1);
        site.share(0, 0, 1, 0, 1);
        site.share(1, 0, 1, 0, 1);
        check.equal("shared ones have room of their own", site.look(0, 7), 6);
        check.refusesState("the fifth behind shared ones", () -> site.forbid(0, 0, 1));
    }

    private static void forbidBehindATick() {
        CraneSite site = behindATick();
        for (int c = 0; c < 3; c++) {
            int crane = c;
            check.refusesState("crane " + crane, () -> site.forbid(crane, 0, 5));
            check.equal("none binds crane " + crane, site.look(crane, 7), 0);
        }
        CraneSite fresh = new CraneSite();
        check.refusesArgument("tick 1001", () -> fresh.tick(1001));
        check.equal("a refused tick was none", fresh.forbid(0, 0, 5), 1);
    }

    private static void secondShared() {
        CraneSite site = new CraneSite();
        site.share(1, 0, 1, 500, 1);
        check.refusesState("a second of pair 1", () -> site.share(1, 500, 1, 0, 1));
        check.refusesState("the same again", () -> site.share(1, 0, 1, 500, 1));
        check.equalRows("the first is as it was", Check.pair(site, 1), Check.row(0, 0, 0, 1, 0));
        check.equal("one arc binds the keeper", site.look(0, 7), 1);
        site.share(0, 0, 1, 500, 1);
        site.share(2, 0, 1, 500, 1);
        check.equalRows("the other pairs have room", Check.row(site.pair(0, 3), site.pair(2, 3)), Check.row(1, 1));
    }

    private static void shareBehindATick() {
        CraneSite site = behindATick();
        for (int p = 0; p < 3; p++) {
            int pair = p;
            check.refusesState("pair " + pair, () -> site.share(pair, 0, 5, 0, 5));
            check.equalRows("it has none", Check.pair(site, pair), Check.row(0, 0, 1, 0, 0));
        }
        site.tick(10);
        check.equal("so nobody sends", site.bus(1), 0);
        CraneSite fresh = new CraneSite();
        check.refusesArgument("tick -1", () -> fresh.tick(-1));
        fresh.share(0, 0, 5, 0, 5);
        check.equal("a refused tick was none", fresh.pair(0, 3), 1);
    }

    private static void fullOfFates() {
        CraneSite site = new CraneSite();
        site.share(0, 1000, 1, 1000, 1);
        for (int i = 1; i <= 99; i++) {
            check.equal("fate " + i, site.fate(0), i);
        }
        check.equal("the hundredth has room", site.fate(0), 100);
        check.refusesState("the next", () -> site.fate(0));
        check.refusesState("the next again", () -> site.fate(30));
        site.tick(10);
        check.equal("BEAT took one, so one more has room", site.fate(2), 100);
        check.refusesState("and no other", () -> site.fate(0));
        site.tick(991);
        check.equalRows("a hundred are lost", Check.bus(site), Check.row(0, 100, 100, 0));
        site.tick(10);
        check.equalRows("the latest fate is on", Check.bus(site), Check.row(1, 101, 100, 0));
        site.tick(1);
        check.equalRows("and was 2", Check.bus(site), Check.row(0, 101, 100, 1));
        check.equal("then none waits", site.fate(0), 1);
    }

    private static void theLongestUse() {
        CraneSite site = new CraneSite();
        site.share(0, 1000, 1, 1000, 1);
        site.order(0, 0, 1);
        for (int i = 1; i <= 505; i++) {
            check.equal("a thousand ticks more", site.tick(1000), i * 1000);
        }
        check.equal("the latest BEAT is on its way", site.bus(0), 1);
        check.equal("BEATs", site.bus(1), 50500);
        check.equal("none is lost", site.bus(2), 0);
        check.equal("heard 9 ticks ago", site.pair(0, 2), 9);
        check.equal("crane 0 went around", site.look(0, 0), 505000 % 3600);
    }
}
