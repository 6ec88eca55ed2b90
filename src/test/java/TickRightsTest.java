/** Promise 9: rights of keeper and asker. */
public final class TickRightsTest {
    private static final Check check = new Check();

    public static void main(String[] args) {
        keeperWantsWithinTwoHundred();
        askerWantsWithinTwoHundred();
        theOrdersSenseCounts();
        inTheArcItWantsWithoutOrder();
        keeperGivesBackStanding();
        keeperNeedsToHaveHeard();
        askerIsGrantedAndFrees();
        keeperThatHasDoesNotGrant();
        askerThatWantsNoMoreFrees();
        lateAskIsNotGranted();
        lateGrantIsNotTaken();
        lateFreeDoesNotFree();
        lateFreeLowersNothing();
        lateDoneEndsNothing();
        freeIsSentAgain();
        grantIsRepeated();
        rightsLetIntoTheArc();
        pairsWithoutArcsAreSilent();
        check.end();
    }

    private static CraneSite shared(int keeperAngle, int askerAngle) {
        CraneSite site = new CraneSite();
        site.setUp(0, keeperAngle);
        site.setUp(1, askerAngle);
        site.share(0, 300, 10, 300, 10);
        return site;
    }

    private static void rights(CraneSite site, String what, int owner, int doing) {
        check.equal(what + ": who has it", site.pair(0, 0), owner);
        check.equal(what + ": what the asker does", site.pair(0, 1), doing);
    }

    private static void keeperWantsWithinTwoHundred() {
        CraneSite site = shared(100, 2000);
        site.order(0, 0, 1);
        site.tick(1);
        rights(site, "200 ahead", 0, 0);
        site.tick(1);
        rights(site, "199 ahead", 1, 0);

        CraneSite back = shared(509, 2000);
        back.order(0, 0, -1);
        back.tick(1);
        rights(back, "200 ahead backwards", 0, 0);
        back.tick(1);
        rights(back, "199 ahead backwards", 1, 0);

        CraneSite standing = shared(299, 2000);
        standing.tick(3);
        rights(standing, "beside it without order", 0, 0);
        standing.order(0, 0, -1);
        standing.tick(3);
        rights(standing, "beside it, turning away", 0, 0);
    }

    private static void askerWantsWithinTwoHundred() {
        CraneSite site = shared(2000, 100);
        site.order(1, 0, 1);
        site.tick(1);
        rights(site, "200 ahead", 0, 0);
        site.tick(1);
        rights(site, "199 ahead", 0, 1);

        CraneSite back = shared(2000, 509);
        back.order(1, 0, -1);
        back.tick(1);
        rights(back, "200 ahead backwards", 0, 0);
        back.tick(1);
        rights(back, "199 ahead backwards", 0, 1);
    }

    private static void theOrdersSenseCounts() {
        CraneSite site = shared(60, 2000);
        site.order(0, 0, 10);
        site.tick(8);
        check.equal("204 ahead", site.look(0, 0), 96);
        site.order(0, 0, -10);
        site.tick(3);
        check.equal("it still turns towards it", site.look(0, 0), 96 + 7 + 6 + 5);
        rights(site, "but is told to turn away", 0, 0);
    }

    private static void inTheArcItWantsWithoutOrder() {
        CraneSite keeper = shared(309, 2000);
        keeper.tick(1);
        rights(keeper, "keeper in the arc", 1, 0);
        keeper.tick(50);
        rights(keeper, "it stays there", 1, 0);

        CraneSite asker = shared(2000, 300);
        asker.tick(1);
        rights(asker, "asker in the arc", 0, 1);
        asker.tick(2);
        rights(asker, "it stays there", 2, 2);
        asker.tick(50);
        rights(asker, "it stays there", 2, 2);
    }

    private static void keeperGivesBackStanding() {
        CraneSite site = shared(250, 2000);
        site.order(0, 0, 1);
        site.tick(1);
        rights(site, "takes it", 1, 0);
        site.order(0, 0, 0);
        site.tick(1);
        rights(site, "its speed was 1", 1, 0);
        site.tick(1);
        rights(site, "its speed is 0", 0, 0);
    }

    private static void keeperNeedsToHaveHeard() {
        CraneSite site = shared(250, 2000);
        Check.fates(site, 0, 0, 0, 0);
        site.tick(39);
        site.order(0, 0, 1);
        site.tick(1);
        rights(site, "heard 40 ticks ago", 1, 0);

        CraneSite silent = shared(250, 2000);
        Check.fates(silent, 0, 0, 0, 0, 3);
        silent.tick(40);
        silent.order(0, 0, 1);
        silent.tick(1);
        rights(silent, "heard 41 ticks ago", 0, 0);
        silent.tick(11);
        rights(silent, "heard 52 ticks ago", 0, 0);
        silent.tick(1);
        rights(silent, "heard now", 1, 0);
    }

    private static void askerIsGrantedAndFrees() {
        CraneSite site = shared(2000, 250);
        site.order(1, 0, 1);
        site.tick(1);
        rights(site, "ASK is sent", 0, 1);
        site.tick(1);
        rights(site, "GRANT is sent", 2, 1);
        site.tick(1);
        rights(site, "GRANT came", 2, 2);
        check.equalRows("two messages came", Check.bus(site), Check.row(0, 2, 0, 2));
        site.order(1, 0, 0);
        site.tick(1);
        rights(site, "its speed was 1", 2, 2);
        site.tick(1);
        rights(site, "FREE is sent", 2, 3);
        site.tick(1);
        rights(site, "DONE is sent", 0, 3);
        site.tick(1);
        rights(site, "DONE came", 0, 0);
        check.equalRows("four messages came", Check.bus(site), Check.row(0, 4, 0, 4));
    }

    private static void keeperThatHasDoesNotGrant() {
        CraneSite site = shared(300, 250);
        site.order(1, 0, 1);
        site.tick(9);
        rights(site, "keeper in the arc", 1, 1);
        check.equal("ASK", site.bus(1), 1);
        site.tick(11);
        check.equal("and two BEATs", site.bus(1), 3);
        site.tick(1);
        check.equal("and ASK again 20 ticks later", site.bus(1), 4);
        site.tick(19);
        check.equal("and two BEATs more", site.bus(1), 6);
        site.tick(1);
        check.equal("and ASK once more", site.bus(1), 7);
        rights(site, "keeper in the arc", 1, 1);
    }

    private static void askerThatWantsNoMoreFrees() {
        CraneSite site = shared(300, 250);
        site.order(1, 0, 1);
        site.tick(1);
        site.order(1, 0, 0);
        site.tick(1);
        rights(site, "FREE is sent", 1, 3);
        site.order(1, 0, 1);
        site.tick(1);
        rights(site, "it waits though it wants again", 1, 3);
        site.tick(1);
        rights(site, "DONE came, so it asks anew", 1, 1);
        check.equal("ASK, FREE, DONE, ASK", site.bus(1), 4);
    }

    private static void lateAskIsNotGranted() {
        CraneSite site = shared(2000, 250);
        Check.fates(site, 10);
        site.order(1, 0, 1);
        site.tick(1);
        site.order(1, 0, 0);
        site.tick(3);
        rights(site, "freed while ASK is on its way", 0, 0);
        site.tick(7);
        rights(site, "ASK came late", 0, 0);
        check.equalRows("ASK, FREE, DONE, BEAT", Check.bus(site), Check.row(0, 4, 0, 4));
        check.equal("it was heard", site.pair(0, 2), 0);
        site.order(1, 0, 1);
        site.tick(2);
        rights(site, "the next ASK is granted", 2, 1);
    }

    private static void lateGrantIsNotTaken() {
        CraneSite site = shared(2000, 250);
        // ASK; GRANT and FREE; DONE; the second ASK, two BEATs, ASK again, BEAT.
        Check.fates(site, 1, 30, 1, 1, 0, 0, 0, 0, 0);
        site.order(1, 0, 1);
        site.tick(1);
        site.order(1, 0, 0);
        site.tick(1);
        rights(site, "GRANT and FREE are sent", 2, 3);
        site.tick(1);
        rights(site, "FREE came", 0, 3);
        site.tick(1);
        rights(site, "DONE came", 0, 0);
        site.order(1, 0, 1);
        site.tick(27);
        check.equalRows("only GRANT is on its way", Check.bus(site), Check.row(1, 9, 5, 3));
        rights(site, "it asks anew", 0, 1);
        site.tick(1);
        check.equal("GRANT of the first ASK came", site.bus(3), 4);
        rights(site, "it still asks", 0, 1);
    }

    private static void lateFreeDoesNotFree() {
        CraneSite site = shared(2000, 250);
        // ASK, GRANT; FREE comes after 25 ticks, again after 20 at once, DONE; ASK, GRANT by serial 2.
        site.order(1, 0, 1);
        site.tick(3);
        site.order(1, 0, 0);
        site.tick(1);
        Check.fates(site, 25, 0, 0, 1, 1, 1, 1);
        site.tick(1);
        rights(site, "FREE is sent", 2, 3);
        site.tick(19);
        rights(site, "still on its way", 2, 3);
        site.tick(3);
        rights(site, "the second one did it", 0, 0);
        site.order(1, 0, 1);
        site.tick(2);
        rights(site, "granted anew", 2, 1);
        site.tick(1);
        rights(site, "the first FREE came", 2, 2);
        check.equal("and is answered", site.bus(1), 11);
        site.tick(1);
        rights(site, "DONE came", 2, 2);
    }

    private static void lateFreeLowersNothing() {
        CraneSite site = shared(2000, 250);
        // ASK, GRANT, FREE after 30, two BEATs, FREE again, DONE; then ASK by serial 2 after 20, FREE at once.
        Check.fates(site, 1, 1, 30, 0, 0, 1, 1, 20, 1);
        site.order(1, 0, 1);
        site.tick(1);
        site.order(1, 0, 0);
        site.tick(22);
        rights(site, "DONE is on its way", 0, 3);
        site.order(1, 0, 1);
        site.tick(1);
        rights(site, "it asks by serial 2", 0, 1);
        site.order(1, 0, 0);
        site.tick(3);
        rights(site, "and freed it", 0, 0);
        int came = site.bus(3);
        site.tick(5);
        check.equal("BEAT and the first FREE by serial 1 came", site.bus(3), came + 2);
        site.tick(11);
        rights(site, "ASK by serial 2 is on its way", 0, 0);
        site.tick(1);
        check.equal("it came", site.pair(0, 2), 0);
        rights(site, "and is not granted", 0, 0);
    }

    private static void lateDoneEndsNothing() {
        CraneSite site = shared(300, 250);
        // The keeper is in the arc: ASK, FREE, its DONE after 30; FREE again, its DONE at once.
        Check.fates(site, 1, 1, 30, 0, 0, 1, 1);
        site.order(1, 0, 1);
        site.tick(1);
        site.order(1, 0, 0);
        site.tick(20);
        rights(site, "DONE is on its way", 1, 3);
        site.tick(3);
        rights(site, "the second DONE came", 1, 0);
        // ASK by serial 2 and FREE are lost.
        Check.fates(site, 0, 0, 0);
        site.order(1, 0, 1);
        site.tick(1);
        site.order(1, 0, 0);
        site.tick(1);
        rights(site, "waits by serial 2", 1, 3);
        int came = site.bus(3);
        site.tick(7);
        check.equal("the first DONE came", site.bus(3), came + 1);
        rights(site, "it waits all the same", 1, 3);
    }

    private static void freeIsSentAgain() {
        CraneSite site = shared(300, 250);
        Check.fates(site, 1, 0, 0, 0);
        site.order(1, 0, 1);
        site.tick(1);
        site.order(1, 0, 0);
        site.tick(20);
        rights(site, "FREE is lost", 1, 3);
        check.equal("ASK, FREE, two BEATs", site.bus(1), 4);
        site.tick(1);
        check.equal("FREE again", site.bus(1), 5);
        site.tick(2);
        rights(site, "DONE came", 1, 0);
    }

    private static void grantIsRepeated() {
        CraneSite site = shared(2000, 250);
        Check.fates(site, 1, 0, 0, 0);
        site.order(1, 0, 1);
        site.tick(20);
        rights(site, "GRANT is lost", 2, 1);
        site.tick(3);
        rights(site, "ASK again, GRANT again", 2, 2);
        check.equalRows("ASK, GRANT, two BEATs, ASK, GRANT", Check.bus(site), Check.row(0, 6, 3, 3));
    }

    private static void rightsLetIntoTheArc() {
        CraneSite site = shared(290, 290);
        site.order(0, 0, 1);
        site.order(1, 0, 1);
        site.tick(11);
        check.equal("the keeper goes in", site.look(0, 0), 301);
        check.equal("the asker stops", site.look(1, 0), 299);
        check.equal("the keeper's arc is open", site.look(0, 7), 0);
        site.tick(10);
        site.order(0, 0, 0);
        site.tick(1);
        rights(site, "beyond it the keeper still turns", 1, 1);
        check.equal("now it stands", site.look(0, 1), 0);
        site.tick(1);
        rights(site, "it gave it back", 0, 1);
        site.tick(18);
        rights(site, "until ASK is sent again", 0, 1);
        site.tick(1);
        rights(site, "until ASK comes again", 2, 1);
        check.equal("and the asker waits", site.look(1, 0), 299);
        site.tick(1);
        check.equal("in the tick of GRANT it goes in", site.look(1, 0), 300);
        check.equal("its arc is open", site.look(1, 7), 0);
    }

    private static void pairsWithoutArcsAreSilent() {
        CraneSite site = new CraneSite();
        site.order(0, 0, 1);
        site.order(1, 0, -1);
        site.tick(100);
        check.equalRows("no messages", Check.bus(site), new int[4]);
        for (int p = 0; p < 3; p++) {
            check.equalRows("nothing happens", Check.pair(site, p), Check.row(0, 0, 100, 0, 0));
        }
    }
}
