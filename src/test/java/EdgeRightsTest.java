/** Terms: the sentences on rights. */
public final class EdgeRightsTest {
    private static final Check check = new Check();
    private static final int FAR = 1800;

    public static void main(String[] args) {
        check.sentence("in the shared arc (whatever its order)", EdgeRightsTest::wantsInTheArc);
        check.sentence("or its order is not 0", EdgeRightsTest::wantsNotWithoutOrder);
        check.sentence("turning on at its sense", EdgeRightsTest::wantsAtItsSense);
        check.sentence("the arc is less than 200 angles ahead", EdgeRightsTest::wantsWithin200);
        check.sentence("less than 200 angles ahead .. around", EdgeRightsTest::wantsAround);
        check.sentence("It gives it back .. when .. its speed is 0", EdgeRightsTest::givesBackStanding);
        check.sentence("It gives it back .. when .. it is not in the arc", EdgeRightsTest::keepsInTheArc);
        check.sentence("It gives it back .. when .. [it] does not want it", EdgeRightsTest::keepsWanting);
        check.sentence("The keeper takes it .. when .. nobody has it", EdgeRightsTest::takesFromNobody);
        check.sentence("it heard the asker at most 40 ticks ago", EdgeRightsTest::heardWithin40);
        check.sentence("all heard at tick 0", EdgeRightsTest::heardAtFirst);
        check.sentence("again when the latest was 20 ticks ago or more", EdgeRightsTest::asksAgain);
        check.sentence("When it asks and does not want it any more", EdgeRightsTest::wantsNoMore);
        check.sentence("it sends FREE at once, and again likewise, until then", EdgeRightsTest::freesAgain);
        check.sentence("GRANT, unless it has the right itself", EdgeRightsTest::noGrantOfItsOwn);
        check.sentence("or the serial is not above the greatest one of a FREE", EdgeRightsTest::noGrantBehindFree);
        check.sentence("not above the greatest one: below it", EdgeRightsTest::noGrantBehindLaterFree);
        check.sentence("the asker counts as having it from then on", EdgeRightsTest::grantsAgain);
        check.sentence("To FREE it answers DONE, always", EdgeRightsTest::doneAlways);
        check.sentence("when the asker had it by that serial or a lower one", EdgeRightsTest::freeOfThatSerial);
        check.sentence("With GRANT of its serial", EdgeRightsTest::grantOfAnotherSerial);
        check.sentence("the asker has the right, if it asks", EdgeRightsTest::grantThatComesLate);
        check.sentence("with DONE of its serial", EdgeRightsTest::doneOfAnotherSerial);
        check.sentence("it does nothing any more, if it waits", EdgeRightsTest::doneThatComesTwice);
        check.sentence("BEAT when the tick is a multiple of 10", EdgeRightsTest::beats);
        check.sentence("each asker of a pair with a shared arc", EdgeRightsTest::onlyAskersBeat);
        check.sentence("The keeper heard it whenever any message of it came.", EdgeRightsTest::heardByAny);
        check.end();
    }

    /** Pair 0 shares the angles 300 .. 309 of crane 0 and of crane 1. */
    private static CraneSite shared(int keeperAngle, int askerAngle) {
        CraneSite site = new CraneSite();
        site.setUp(0, keeperAngle);
        site.setUp(1, askerAngle);
        site.share(0, 300, 10, 300, 10);
        return site;
    }

    private static void rights(String what, CraneSite site, int owner, int doing) {
        check.equal(what + ": who has it", site.pair(0, 0), owner);
        check.equal(what + ": what the asker does", site.pair(0, 1), doing);
    }

    /** Whether keeper and asker want the right in the first tick, the order being given ahead of it. */
    private static void wants(String what, int angle, int order, boolean due) {
        CraneSite keeper = shared(angle, FAR);
        keeper.order(0, 0, order);
        keeper.tick(1);
        rights("keeper, " + what, keeper, due ? 1 : 0, 0);
        CraneSite asker = shared(FAR, angle);
        asker.order(1, 0, order);
        asker.tick(1);
        rights("asker, " + what, asker, 0, due ? 1 : 0);
    }

    private static void wantsInTheArc() {
        for (int order : Check.row(-10, -1, 0, 1, 10)) {
            wants("first angle, order " + order, 300, order, true);
            wants("inside, order " + order, 305, order, true);
            wants("last angle, order " + order, 309, order, true);
        }
    }

    private static void wantsNotWithoutOrder() {
        wants("next to it", 299, 0, false);
        wants("next to it, told to turn", 299, 1, true);
        wants("behind it", 310, 0, false);
        wants("behind it, told to turn", 310, -1, true);
    }

    private static void wantsAtItsSense() {
        wants("next to it, turning away", 299, -1, false);
        wants("behind it, turning away", 310, 1, false);
        CraneSite site = shared(60, FAR);
        site.order(0, 0, 10);
        site.tick(8);
        site.order(0, 0, -10);
        site.tick(2);
        check.equal("7 and 6 nearer, 191 ahead", site.look(0, 0), 109);
        rights("told to turn back while it turns on", site, 0, 0);
        site.order(0, 0, 10);
        site.tick(1);
        rights("told to turn on", site, 1, 0);
    }

    private static void wantsWithin200() {
        for (int order : Check.row(1, 10)) {
            wants("200 ahead", 100, order, false);
            wants("199 ahead", 101, order, true);
            wants("200 ahead backwards", 509, -order, false);
            wants("199 ahead backwards", 508, -order, true);
        }
    }

    private static void wantsAround() {
        int[] starts = {3500, 3501};
        for (int i = 0; i < 2; i++) {
            CraneSite site = new CraneSite();
            site.setUp(0, starts[i]);
            site.setUp(1, 3600 - starts[i]);
            site.share(0, 100, 5, 3496, 5);
            site.order(0, 0, 1);
            site.order(1, 0, -1);
            site.tick(1);
            check.equal("keeper at " + starts[i], site.pair(0, 0), i);
            check.equal("asker at " + (3600 - starts[i]), site.pair(0, 1), i);
        }
    }

    private static void givesBackStanding() {
        CraneSite site = shared(250, FAR);
        site.order(0, 0, 2);
        site.tick(2);
        site.order(0, 0, 0);
        site.tick(1);
        rights("its speed was 2", site, 1, 0);
        site.tick(1);
        rights("its speed was 1", site, 1, 0);
        site.tick(1);
        rights("its speed was 0", site, 0, 0);

        CraneSite asker = shared(FAR, 250);
        asker.order(1, 0, 1);
        asker.tick(3);
        asker.order(1, 0, 0);
        asker.tick(1);
        rights("its speed was 1", asker, 2, 2);
        asker.tick(1);
        rights("its speed was 0", asker, 2, 3);
    }

    private static void keepsInTheArc() {
        for (int angle : Check.row(300, 309)) {
            CraneSite keeper = shared(angle, FAR);
            keeper.tick(100);
            rights("keeper at " + angle, keeper, 1, 0);
            CraneSite asker = shared(FAR, angle);
            asker.tick(100);
            rights("asker at " + angle, asker, 2, 2);
        }
    }

    /** A forbidden arc ahead of the shared one makes the crane stand while it still wants it. */
    private static void keepsWanting() {
        CraneSite site = new CraneSite();
        site.setUp(0, 250);
        site.setUp(1, FAR);
        site.forbid(0, 251, 1);
        site.share(0, 300, 10, 300, 10);
        site.order(0, 0, 10);
        site.tick(50);
        check.equal("it stands", site.look(0, 1), 0);
        rights("and wants it", site, 1, 0);
        site.order(0, 0, -1);
        site.tick(1);
        rights("told to turn away it gives it back before it turns", site, 0, 0);

        CraneSite asker = new CraneSite();
        asker.setUp(0, FAR);
        asker.setUp(1, 250);
        asker.forbid(1, 251, 1);
        asker.share(0, 300, 10, 300, 10);
        asker.order(1, 0, 10);
        asker.tick(50);
        rights("the asker stands and wants it", asker, 2, 2);
        asker.order(1, 0, 0);
        asker.tick(1);
        rights("it does not any more", asker, 2, 3);
    }

    private static void takesFromNobody() {
        CraneSite site = shared(250, 300);
        site.tick(3);
        rights("the asker has it", site, 2, 2);
        site.order(0, 0, 1);
        site.tick(30);
        rights("and keeps it", site, 2, 2);
        site.order(1, 0, 10);
        site.tick(10);
        site.order(1, 0, 0);
        site.tick(11);
        rights("it stands beyond the arc, and FREE is sent", site, 2, 3);
        site.tick(1);
        rights("in the tick in which FREE comes the keeper takes it", site, 1, 3);
    }

    private static void heardWithin40() {
        CraneSite site = shared(250, FAR);
        Check.fates(site, 1, 0, 0, 0, 0);
        site.tick(50);
        check.equal("BEAT came at 11", site.pair(0, 2), 39);
        site.order(0, 0, 1);
        site.tick(1);
        check.equal("heard 40 ticks ago", site.pair(0, 2), 40);
        rights("so it takes it", site, 1, 0);

        CraneSite late = shared(250, FAR);
        Check.fates(late, 1, 0, 0, 0, 0);
        late.tick(51);
        late.order(0, 0, 1);
        late.tick(1);
        check.equal("heard 41 ticks ago", late.pair(0, 2), 41);
        rights("so it does not", late, 0, 0);
        late.tick(8);
        rights("nor when BEAT is sent", late, 0, 0);
        late.tick(1);
        rights("but when it comes", late, 1, 0);
    }

    private static void heardAtFirst() {
        CraneSite site = shared(250, FAR);
        Check.fates(site, 0, 0, 0, 0);
        site.tick(39);
        site.order(0, 0, 1);
        site.tick(1);
        rights("tick 40", site, 1, 0);
        CraneSite late = shared(250, FAR);
        Check.fates(late, 0, 0, 0, 0);
        late.tick(40);
        late.order(0, 0, 1);
        late.tick(1);
        rights("tick 41", late, 0, 0);
    }

    private static void asksAgain() {
        CraneSite site = shared(FAR, 300);
        Check.fates(site, 0, 0, 0, 0, 0);
        site.tick(1);
        check.equal("ASK at once", site.bus(1), 1);
        site.tick(19);
        check.equal("two BEATs, and none 19 ticks later", site.bus(1), 3);
        site.tick(1);
        check.equal("20 ticks later ASK", site.bus(1), 4);
        site.tick(19);
        check.equal("19 ticks behind that one two BEATs", site.bus(1), 6);
        site.tick(1);
        check.equal("20 ticks behind it ASK", site.bus(1), 7);
    }

    private static void wantsNoMore() {
        CraneSite site = shared(FAR, 250);
        Check.fates(site, 0);
        site.order(1, 0, 10);
        site.tick(4);
        rights("it asks", site, 0, 1);
        site.order(1, 0, 0);
        site.tick(1);
        rights("at speed too it waits at once", site, 0, 3);
        check.equal("its speed", site.look(1, 1), 3);
        check.equal("ASK and FREE", site.bus(1), 2);
        site.tick(2);
        rights("until DONE comes", site, 0, 0);
    }

    private static void freesAgain() {
        CraneSite site = shared(FAR, 250);
        Check.fates(site, 0, 0, 0, 0, 0, 0, 0);
        site.order(1, 0, 1);
        site.tick(1);
        site.order(1, 0, 0);
        site.tick(1);
        check.equal("ASK, and FREE at once", site.bus(1), 2);
        site.tick(19);
        check.equal("two BEATs, and none 19 ticks later", site.bus(1), 4);
        site.tick(1);
        check.equal("20 ticks later FREE", site.bus(1), 5);
        site.tick(19);
        check.equal("19 ticks behind that one two BEATs", site.bus(1), 7);
        site.tick(1);
        check.equal("20 ticks behind it FREE", site.bus(1), 8);
        rights("it waits", site, 0, 3);
        site.tick(2);
        rights("until DONE comes", site, 0, 0);
        site.tick(5);
        check.equal("DONE, and no FREE any more", site.bus(1), 9);
    }

    private static void noGrantOfItsOwn() {
        CraneSite site = shared(300, 300);
        site.tick(5);
        rights("the keeper has it", site, 1, 1);
        check.equalRows("ASK came, no answer", Check.bus(site), Check.row(0, 1, 0, 1));
    }

    private static void noGrantBehindFree() {
        CraneSite site = shared(FAR, 250);
        Check.fates(site, 5);
        site.order(1, 0, 1);
        site.tick(1);
        site.order(1, 0, 0);
        site.tick(3);
        rights("FREE came and DONE", site, 0, 0);
        site.order(1, 0, 1);
        site.tick(1);
        rights("it asks by serial 2", site, 0, 1);
        check.equalRows("ASK by serial 1 is on its way too", Check.bus(site), Check.row(2, 4, 0, 2));
        site.tick(1);
        rights("both came", site, 2, 1);
        check.equalRows("and one GRANT is sent", Check.bus(site), Check.row(1, 5, 0, 4));
        site.tick(1);
        rights("that by serial 2", site, 2, 2);
    }

    private static void noGrantBehindLaterFree() {
        CraneSite site = shared(FAR, 250);
        // ASK by serial 1 takes 9; FREE and DONE, and by serial 2 ASK, GRANT, FREE and DONE, take 1.
        Check.fates(site, 9);
        for (int serial = 1; serial <= 2; serial++) {
            site.order(1, 0, 1);
            site.tick(1);
            site.order(1, 0, 0);
            site.tick(3);
            rights("freed by serial " + serial, site, 0, 0);
        }
        int sent = site.bus(1);
        site.tick(1);
        check.equal("ASK by serial 1 is on its way", site.bus(0), 1);
        site.tick(1);
        check.equal("it came", site.pair(0, 2), 0);
        rights("and is not granted", site, 0, 0);
        check.equal("nor answered, for all that is sent is BEAT", site.bus(1), sent + 1);
    }

    private static void grantsAgain() {
        CraneSite site = shared(FAR, 300);
        // ASK, its GRANT, two BEATs; then ASK, GRANT.
        Check.fates(site, 1, 0, 0, 0);
        site.tick(2);
        rights("GRANT is lost", site, 2, 1);
        site.tick(20);
        rights("ASK came again", site, 2, 1);
        site.tick(1);
        rights("and GRANT", site, 2, 2);
    }

    private static void doneAlways() {
        CraneSite nobody = shared(FAR, 250);
        Check.fates(nobody, 0);
        nobody.order(1, 0, 1);
        nobody.tick(1);
        nobody.order(1, 0, 0);
        nobody.tick(2);
        check.equalRows("nobody had it, ASK being lost", Check.bus(nobody), Check.row(1, 3, 1, 1));
        nobody.tick(1);
        rights("DONE came", nobody, 0, 0);

        CraneSite keeper = shared(300, 250);
        keeper.order(1, 0, 1);
        keeper.tick(1);
        keeper.order(1, 0, 0);
        keeper.tick(2);
        rights("the keeper has it and keeps it", keeper, 1, 3);
        keeper.tick(1);
        rights("DONE came", keeper, 1, 0);
    }

    private static void freeOfThatSerial() {
        CraneSite site = shared(FAR, 250);
        // ASK, GRANT, FREE after 25, two BEATs, FREE again, its DONE, ASK and GRANT by serial 2.
        Check.fates(site, 1, 1, 25, 0, 0, 1, 1, 1, 1);
        site.order(1, 0, 1);
        site.tick(1);
        site.order(1, 0, 0);
        site.tick(2);
        rights("FREE is sent", site, 2, 3);
        site.tick(20);
        rights("the second FREE came, of that serial", site, 0, 3);
        site.order(1, 0, 1);
        site.tick(2);
        rights("granted by serial 2", site, 2, 1);
        int came = site.bus(3);
        site.tick(2);
        check.equal("GRANT and the first FREE came", site.bus(3), came + 2);
        rights("which frees no higher serial", site, 2, 2);
    }

    private static void grantOfAnotherSerial() {
        CraneSite site = shared(FAR, 250);
        // GRANT by serial 1 takes 6, so it comes when the asker asks by serial 2, whose ASK is lost.
        Check.fates(site, 1, 6, 1, 1, 0);
        site.order(1, 0, 1);
        site.tick(1);
        site.order(1, 0, 0);
        site.tick(3);
        rights("DONE came", site, 0, 0);
        site.order(1, 0, 1);
        site.tick(1);
        rights("it asks by serial 2", site, 0, 1);
        int came = site.bus(3);
        site.tick(3);
        check.equal("GRANT came", site.bus(3), came + 1);
        rights("it asks all the same", site, 0, 1);
    }

    private static void grantThatComesLate() {
        CraneSite site = shared(FAR, 250);
        // GRANT takes 2 while FREE is lost.
        Check.fates(site, 1, 2, 0);
        site.order(1, 0, 1);
        site.tick(1);
        site.order(1, 0, 0);
        site.tick(1);
        rights("GRANT is on its way", site, 2, 3);
        site.tick(2);
        check.equal("it came", site.bus(3), 2);
        rights("it waits all the same", site, 2, 3);
    }

    private static void doneOfAnotherSerial() {
        CraneSite site = shared(300, 250);
        // ASK, FREE, its DONE after 30, two BEATs, FREE again, its DONE; by serial 2 ASK and FREE are lost.
        Check.fates(site, 1, 1, 30, 0, 0, 1, 1, 0, 0);
        site.order(1, 0, 1);
        site.tick(1);
        site.order(1, 0, 0);
        site.tick(23);
        rights("the second DONE came", site, 1, 0);
        site.order(1, 0, 1);
        site.tick(1);
        site.order(1, 0, 0);
        site.tick(1);
        rights("it waits by serial 2", site, 1, 3);
        int came = site.bus(3);
        site.tick(7);
        check.equal("BEAT and DONE by serial 1 came", site.bus(3), came + 2);
        rights("it waits all the same", site, 1, 3);
    }

    private static void doneThatComesTwice() {
        CraneSite site = shared(300, 250);
        // ASK, FREE, its DONE after 21, two BEATs, FREE again, its DONE.
        Check.fates(site, 1, 1, 21, 0, 0, 1, 1);
        site.order(1, 0, 1);
        site.tick(1);
        site.order(1, 0, 0);
        site.tick(22);
        rights("both DONEs are on their way", site, 1, 3);
        check.equal("both", site.bus(0), 2);
        site.tick(1);
        rights("both came", site, 1, 0);
        check.equal("both", site.bus(0), 0);
        site.order(1, 0, 1);
        site.tick(1);
        rights("it asks anew", site, 1, 1);
    }

    private static void beats() {
        CraneSite site = shared(FAR, FAR);
        site.tick(9);
        check.equal("tick 9", site.bus(1), 0);
        site.tick(1);
        check.equal("tick 10", site.bus(1), 1);
        site.tick(9);
        check.equal("tick 19", site.bus(1), 1);
        site.tick(1);
        check.equal("tick 20", site.bus(1), 2);
        site.tick(1);
        check.equal("tick 21", site.bus(1), 2);

        CraneSite first = shared(FAR, 250);
        first.tick(9);
        first.order(1, 0, 1);
        Check.fates(first, 1, 0);
        first.tick(2);
        check.equal("BEAT came", first.pair(0, 2), 0);
        rights("ASK, sent behind it, is lost", first, 0, 1);
    }

    private static void onlyAskersBeat() {
        for (int p = 0; p < 3; p++) {
            CraneSite site = new CraneSite();
            site.share(p, FAR, 5, FAR, 5);
            site.tick(11);
            check.equalRows("one BEAT", Check.bus(site), Check.row(0, 1, 0, 1));
            for (int other = 0; other < 3; other++) {
                check.equal("heard of pair " + other, site.pair(other, 2), other == p ? 0 : 11);
            }
        }
    }

    private static void heardByAny() {
        CraneSite site = shared(300, 250);
        site.order(1, 0, 1);
        site.tick(1);
        check.equal("ASK is on its way", site.pair(0, 2), 1);
        site.tick(1);
        check.equal("ASK came, though it is not granted", site.pair(0, 2), 0);
        site.tick(3);
        site.order(1, 0, 0);
        site.tick(1);
        check.equal("FREE is on its way", site.pair(0, 2), 4);
        site.tick(1);
        check.equal("FREE came", site.pair(0, 2), 0);
        site.tick(3);
        check.equal("BEAT is on its way", site.pair(0, 2), 3);
        site.tick(1);
        check.equal("BEAT came", site.pair(0, 2), 0);
    }
}
