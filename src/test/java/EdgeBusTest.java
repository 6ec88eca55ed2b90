/** Terms: the sentences on the tick and the bus. */
public final class EdgeBusTest {
    private static final Check check = new Check();
    private static final int FAR = 1800;

    public static void main(String[] args) {
        check.sentence("Ticks are 1, 2, ..", EdgeBusTest::ticksFromOne);
        check.sentence("A TICK: first the bus", EdgeBusTest::busBeforeRights);
        check.sentence("then all cranes, 0 to 2", EdgeBusTest::cranesInTheirOrder);
        check.sentence("each: RIGHTS .., slewing", EdgeBusTest::rightsBeforeSlewing);
        check.sentence("its turn in pairs 0, 1, 2 that it is of", EdgeBusTest::pairsInTheirOrder);
        check.sentence("THE BUS takes what is sent in a tick (answers to what came first)", EdgeBusTest::answersFirst);
        check.sentence("a DELAY of 1 .. 30 ticks: 1", EdgeBusTest::leastDelay);
        check.sentence("a DELAY of 1 .. 30 ticks: 30", EdgeBusTest::greatestDelay);
        check.sentence("0 lost", EdgeBusTest::lost);
        check.sentence("without any more: 1", EdgeBusTest::withoutFates);
        check.sentence("those of one tick in the order in which they were sent", EdgeBusTest::orderOfSending);
        check.sentence("At most 12 are on their way: one more is lost", EdgeBusTest::thirteenth);
        check.sentence("At most 12 are on their way, but those that come make room", EdgeBusTest::roomAgain);
        check.sentence("(it takes a fate all the same)", EdgeBusTest::fateOfTheThirteenth);
        check.sentence("At the beginning of the tick .. it comes: all 12 at once", EdgeBusTest::allComeAtOnce);
        check.end();
    }

    /** Pair 0 alone; the asker stands at 0, 50 ahead of its arc. */
    private static CraneSite onePair() {
        CraneSite site = new CraneSite();
        site.share(0, FAR, 5, 50, 5);
        return site;
    }

    /** All pairs; the askers stand at 0, 50 ahead of their arcs, and nobody has an order. */
    private static CraneSite threePairs() {
        CraneSite site = new CraneSite();
        for (int p = 0; p < 3; p++) {
            site.share(p, FAR, 5, 50, 5);
        }
        return site;
    }

    private static void ticksFromOne() {
        CraneSite site = onePair();
        check.equal("the first", site.tick(1), 1);
        check.equal("the second", site.tick(1), 2);
        check.equal("ten in all", site.tick(8), 10);
        check.equal("BEAT of the tenth", site.bus(1), 1);
    }

    private static void busBeforeRights() {
        CraneSite site = onePair();
        site.setUp(0, FAR - 10);
        site.order(1, 0, 1);
        site.tick(1);
        site.order(0, 0, 1);
        site.tick(1);
        check.equal("ASK comes before the keeper can take it", site.pair(0, 0), 2);
    }

    /** Crane 1 is asker of pair 0 before crane 2 is of pair 1, so its ASK takes the first fate. */
    private static void cranesInTheirOrder() {
        CraneSite site = threePairs();
        Check.fates(site, 2, 0, 0);
        site.order(1, 0, 1);
        site.order(2, 0, 1);
        site.tick(3);
        check.equalRows("who has the rights", owners(site), Check.row(2, 0, 0));
    }

    private static int[] owners(CraneSite site) {
        return Check.row(site.pair(0, 0), site.pair(1, 0), site.pair(2, 0));
    }

    private static void rightsBeforeSlewing() {
        CraneSite site = new CraneSite();
        site.share(0, 1, 5, FAR, 5);
        site.order(0, 0, 1);
        site.tick(1);
        check.equal("it takes the right and turns in one tick", site.look(0, 0), 1);
    }

    private static void pairsInTheirOrder() {
        CraneSite site = threePairs();
        Check.fates(site, 0, 2);
        site.order(2, 0, 1);
        site.tick(1);
        check.equalRows("of pair 1 it is lost, of pair 2 on its way", Check.bus(site), Check.row(1, 2, 1, 0));
        site.tick(2);
        check.equalRows("who has the rights", owners(site), Check.row(0, 0, 2));
    }

    private static void answersFirst() {
        CraneSite site = onePair();
        // ASK; in the tick in which it comes GRANT is lost, and FREE, sent behind it, is not.
        Check.fates(site, 1, 0, 1);
        site.order(1, 0, 1);
        site.tick(1);
        site.order(1, 0, 0);
        site.tick(1);
        check.equalRows("GRANT and FREE", Check.bus(site), Check.row(1, 3, 1, 1));
        site.tick(1);
        check.equal("FREE came", site.pair(0, 0), 0);
    }

    private static void leastDelay() {
        CraneSite site = onePair();
        Check.fates(site, 1);
        site.tick(10);
        check.equalRows("sent", Check.bus(site), Check.row(1, 1, 0, 0));
        site.tick(1);
        check.equalRows("came one later", Check.bus(site), Check.row(0, 1, 0, 1));
    }

    private static void greatestDelay() {
        CraneSite site = onePair();
        Check.fates(site, 30, 0, 0, 0);
        site.tick(39);
        check.equalRows("29 later", Check.bus(site), Check.row(1, 3, 2, 0));
        check.equal("not heard", site.pair(0, 2), 39);
        site.tick(1);
        check.equalRows("30 later it came", Check.bus(site), Check.row(0, 4, 3, 1));
        check.equal("heard", site.pair(0, 2), 0);
    }

    private static void lost() {
        CraneSite site = onePair();
        Check.fates(site, 0);
        site.tick(10);
        check.equalRows("sent and lost", Check.bus(site), Check.row(0, 1, 1, 0));
        site.tick(5);
        check.equal("it never comes", site.pair(0, 2), 15);
    }

    private static void withoutFates() {
        CraneSite site = onePair();
        site.tick(11);
        check.equalRows("none ever", Check.bus(site), Check.row(0, 1, 0, 1));
        Check.fates(site, 3);
        site.tick(11);
        check.equalRows("one that waits", Check.bus(site), Check.row(1, 2, 0, 1));
        site.tick(9);
        check.equalRows("none any more", Check.bus(site), Check.row(0, 3, 0, 3));
    }

    /** ASK and FREE come in one tick: in the other order ASK would not be granted, and so not answered. */
    private static void orderOfSending() {
        CraneSite site = onePair();
        Check.fates(site, 9, 8);
        site.order(1, 0, 1);
        site.tick(1);
        site.order(1, 0, 0);
        site.tick(8);
        check.equalRows("both are on their way", Check.bus(site), Check.row(2, 2, 0, 0));
        site.tick(1);
        check.equalRows("GRANT, DONE and BEAT follow", Check.bus(site), Check.row(3, 5, 0, 2));
        check.equal("granted, then freed", site.pair(0, 0), 0);
    }

    /** Twelve are on their way: three ASKs of tick 1, BEATs of 10 and of 20, and ASKs again of 21. */
    private static CraneSite full() {
        CraneSite site = threePairs();
        site.order(1, 0, 1);
        site.order(2, 0, 1);
        for (int i = 0; i < 12; i++) {
            site.fate(30);
        }
        site.tick(21);
        check.equalRows("none is lost", Check.bus(site), Check.row(12, 12, 0, 0));
        return site;
    }

    private static void thirteenth() {
        CraneSite site = full();
        site.tick(8);
        check.equalRows("the twelfth is not", Check.bus(site), Check.row(12, 12, 0, 0));
        site.tick(1);
        check.equalRows("three BEATs more are", Check.bus(site), Check.row(12, 15, 3, 0));
    }

    private static void roomAgain() {
        CraneSite site = full();
        site.tick(10);
        check.equalRows("three ASKs came, so three GRANTs go", Check.bus(site), Check.row(12, 18, 3, 3));
        site.tick(1);
        check.equalRows("three GRANTs came", Check.bus(site), Check.row(9, 18, 3, 6));
        check.equalRows("who has the rights", owners(site), Check.row(2, 2, 2));
    }

    private static void fateOfTheThirteenth() {
        CraneSite site = full();
        // The BEATs that find no room take the first three, one of which says lost all the same.
        Check.fates(site, 5, 0, 5, 2, 0, 1);
        site.tick(9);
        check.equalRows("three are lost, none of them twice", Check.bus(site), Check.row(12, 15, 3, 0));
        check.equal("three fates wait", site.fate(1), 4);
        site.tick(1);
        check.equalRows("of three GRANTs the second is lost", Check.bus(site), Check.row(11, 18, 4, 3));
        site.tick(1);
        check.equalRows("the third comes first", doings(site), Check.row(1, 1, 2));
        site.tick(1);
        check.equalRows("then the first", doings(site), Check.row(2, 1, 2));
    }

    private static void allComeAtOnce() {
        CraneSite site = threePairs();
        site.order(1, 0, 1);
        site.order(2, 0, 1);
        // ASKs of tick 1, BEATs of 10 and of 20, and ASKs again of 21, all due at 30.
        Check.fates(site, 29, 29, 29, 20, 20, 20, 10, 10, 10, 9, 9, 9);
        site.tick(29);
        check.equalRows("twelve are on their way", Check.bus(site), Check.row(12, 12, 0, 0));
        site.tick(1);
        check.equalRows("six GRANTs and three BEATs follow", Check.bus(site), Check.row(9, 21, 0, 12));
        site.tick(1);
        check.equalRows("and come", Check.bus(site), Check.row(0, 21, 0, 21));
        check.equalRows("all have the right", doings(site), Check.row(2, 2, 2));
        check.equalRows("all are heard", Check.row(site.pair(0, 2), site.pair(1, 2), site.pair(2, 2)), new int[3]);
    }

    private static int[] doings(CraneSite site) {
        return Check.row(site.pair(0, 1), site.pair(1, 1), site.pair(2, 1));
    }
}
