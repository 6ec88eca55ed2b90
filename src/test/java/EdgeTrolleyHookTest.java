/** Terms: the sentences on trolley and hook. */
public final class EdgeTrolleyHookTest {
    private static final Check check = new Check();

    public static void main(String[] args) {
        check.sentence("TROLLEY: it moves by its order, to .. 6,000 at most", EdgeTrolleyHookTest::trolleyOutTo6000);
        check.sentence("TROLLEY: it moves by its order, to 0 ..", EdgeTrolleyHookTest::trolleyInTo0);
        check.sentence("not outwards when the load is above the table", EdgeTrolleyHookTest::aboveTheTable);
        check.sentence("at the place to which it would come", EdgeTrolleyHookTest::thePlaceToCome);
        check.sentence("at the place .. (6,000 at most)", EdgeTrolleyHookTest::thePlaceAtTheEnd);
        check.sentence("(then not at all)", EdgeTrolleyHookTest::notAtAll);
        check.sentence("not outwards", EdgeTrolleyHookTest::inwardsAlways);
        check.sentence("HOOK: it moves by its order within .. 8,000", EdgeTrolleyHookTest::hookUpTo8000);
        check.sentence("HOOK: it moves by its order within 0 ..", EdgeTrolleyHookTest::hookDownTo0);
        check.sentence("not upwards when overloaded", EdgeTrolleyHookTest::notUpwards);
        check.sentence("slewing, trolley, hook", EdgeTrolleyHookTest::trolleyFirst);
        check.end();
    }

    private static void trolleyOutTo6000() {
        CraneSite site = new CraneSite();
        site.order(0, 1, 3);
        site.tick(1);
        site.order(0, 1, 5);
        site.tick(1000);
        site.tick(199);
        check.equal("two short of it", site.look(0, 2), 5998);
        site.tick(1);
        check.equal("a part of the order", site.look(0, 2), 6000);
        site.tick(1);
        check.equal("and no more", site.look(0, 2), 6000);
    }

    private static void trolleyInTo0() {
        CraneSite site = new CraneSite();
        site.order(0, 1, -5);
        site.tick(1);
        check.equal("not below it", site.look(0, 2), 0);
        site.order(0, 1, 2);
        site.tick(1);
        site.order(0, 1, -5);
        site.tick(1);
        check.equal("a part of the order", site.look(0, 2), 0);
    }

    /** Crane 0 bears 100 up to a radius of 10 and 99 at 11. */
    private static CraneSite falling(int load) {
        CraneSite site = new CraneSite();
        site.point(0, 10, 100);
        site.point(0, 110, 0);
        site.load(0, load);
        return site;
    }

    private static void aboveTheTable() {
        CraneSite site = falling(100);
        site.order(0, 1, 5);
        site.tick(2);
        check.equal("as much as it bears", site.look(0, 2), 10);
        CraneSite heavy = falling(101);
        heavy.order(0, 1, 5);
        heavy.tick(2);
        check.equal("one above", heavy.look(0, 2), 0);
        CraneSite bare = new CraneSite();
        bare.order(0, 1, 1);
        bare.tick(1);
        check.equal("no load is not above 0", bare.look(0, 2), 1);
        bare.load(0, 1);
        bare.tick(1);
        check.equal("a load is", bare.look(0, 2), 1);
    }

    private static void thePlaceToCome() {
        CraneSite site = falling(99);
        site.order(0, 1, 5);
        site.tick(2);
        site.order(0, 1, 1);
        site.tick(1);
        check.equal("11 bears it", site.look(0, 2), 11);
        site.tick(1);
        check.equal("11 does, 12 does not", site.look(0, 2), 11);

        CraneSite rising = new CraneSite();
        rising.point(0, 0, 10);
        rising.point(0, 5, 20);
        rising.load(0, 20);
        rising.order(0, 1, 4);
        rising.tick(1);
        check.equal("4 does not bear it", rising.look(0, 2), 0);
        rising.order(0, 1, 5);
        rising.tick(1);
        check.equal("5 does, though 0 does not", rising.look(0, 2), 5);
    }

    private static void thePlaceAtTheEnd() {
        CraneSite site = new CraneSite();
        site.point(0, 6000, 7);
        site.order(0, 1, 3);
        site.tick(1);
        site.order(0, 1, 5);
        site.tick(1000);
        site.tick(199);
        site.load(0, 8);
        site.tick(1);
        check.equal("6,000 does not bear it", site.look(0, 2), 5998);
        site.load(0, 7);
        site.tick(1);
        check.equal("it would come to 6,000, not to 6,003", site.look(0, 2), 6000);
    }

    private static void notAtAll() {
        CraneSite site = falling(100);
        site.order(0, 1, 4);
        site.tick(5);
        check.equal("8, though 9 and 10 bear it", site.look(0, 2), 8);
        site.order(0, 1, 2);
        site.tick(5);
        check.equal("a smaller order comes there", site.look(0, 2), 10);
    }

    private static void inwardsAlways() {
        CraneSite site = new CraneSite();
        site.order(0, 1, 5);
        site.tick(4);
        site.load(0, 1000);
        site.order(0, 1, 0);
        site.tick(1);
        check.equal("it stays", site.look(0, 2), 20);
        site.order(0, 1, -1);
        site.tick(1);
        check.equal("inwards", site.look(0, 2), 19);
        site.order(0, 1, 1);
        site.tick(1);
        check.equal("not outwards again", site.look(0, 2), 19);
    }

    private static void hookUpTo8000() {
        CraneSite site = new CraneSite();
        site.order(0, 2, 7);
        site.tick(1);
        site.order(0, 2, 20);
        site.tick(399);
        check.equal("13 short of it", site.look(0, 3), 7987);
        site.tick(1);
        check.equal("a part of the order", site.look(0, 3), 8000);
        site.tick(1);
        check.equal("and no more", site.look(0, 3), 8000);
    }

    private static void hookDownTo0() {
        CraneSite site = new CraneSite();
        site.order(0, 2, -20);
        site.tick(1);
        check.equal("not below it", site.look(0, 3), 0);
        site.order(0, 2, 13);
        site.tick(1);
        site.order(0, 2, -20);
        site.tick(1);
        check.equal("a part of the order", site.look(0, 3), 0);
    }

    private static void notUpwards() {
        CraneSite site = falling(100);
        site.order(0, 2, 20);
        site.tick(1);
        check.equal("as much as it bears", site.look(0, 3), 20);
        site.load(0, 101);
        site.tick(1);
        check.equal("one above", site.look(0, 3), 20);
        site.order(0, 2, 1);
        site.tick(1);
        check.equal("not by one either", site.look(0, 3), 20);
        site.order(0, 2, -1);
        site.tick(1);
        check.equal("but downwards", site.look(0, 3), 19);
        site.order(0, 2, -20);
        site.tick(1);
        check.equal("to the ground", site.look(0, 3), 0);
    }

    /** Whether it is overloaded is asked where the trolley has come to in the same tick. */
    private static void trolleyFirst() {
        CraneSite site = falling(0);
        site.order(0, 1, 5);
        site.tick(2);
        site.order(0, 1, 1);
        site.tick(1);
        site.load(0, 100);
        site.order(0, 1, 0);
        site.order(0, 2, 10);
        site.tick(1);
        check.equal("overloaded at 11", site.look(0, 3), 0);
        site.order(0, 1, -1);
        site.tick(1);
        check.equal("not at 10", site.look(0, 3), 10);

        CraneSite rising = new CraneSite();
        rising.point(0, 0, 10);
        rising.point(0, 5, 20);
        rising.load(0, 20);
        rising.order(0, 1, 5);
        rising.order(0, 2, 10);
        rising.tick(1);
        check.equal("not at 5 any more", rising.look(0, 3), 10);
    }
}
