/** Promise 9: the order of messages, their delays, and what is lost. */
public final class TickBusTest {
    private static final Check check = new Check();

    public static void main(String[] args) {
        beatsEveryTenTicks();
        sameTickInTheOrderOfSending();
        answersTakeTheirFatesFirst();
        beatGoesBeforeAsk();
        pairsInTheirOrder();
        thirteenthIsLost();
        check.end();
    }

    private static void beatsEveryTenTicks() {
        CraneSite site = new CraneSite();
        site.share(1, 1000, 1, 1000, 1);
        site.tick(9);
        check.equalRows("none yet", Check.bus(site), Check.row(0, 0, 0, 0));
        site.tick(1);
        check.equalRows("BEAT is sent", Check.bus(site), Check.row(1, 1, 0, 0));
        check.equal("and not heard yet", site.pair(1, 2), 10);
        site.tick(1);
        check.equalRows("BEAT came", Check.bus(site), Check.row(0, 1, 0, 1));
        check.equal("now it is heard", site.pair(1, 2), 0);
        check.equal("of this pair alone", site.pair(0, 2), 11);
        site.tick(989);
        check.equalRows("a hundred of them", Check.bus(site), Check.row(1, 100, 0, 99));
    }

    private static CraneSite asking() {
        CraneSite site = new CraneSite();
        site.share(0, 1800, 10, 100, 50);
        site.order(1, 0, 1);
        return site;
    }

    private static void sameTickInTheOrderOfSending() {
        CraneSite site = asking();
        Check.fates(site, 5, 4);
        site.tick(1);
        site.order(1, 0, 0);
        site.tick(4);
        check.equalRows("ASK and FREE are on their way", Check.bus(site), Check.row(2, 2, 0, 0));
        site.tick(1);
        check.equalRows("both are answered", Check.bus(site), Check.row(2, 4, 0, 2));
        check.equal("granted, then freed", site.pair(0, 0), 0);
        site.tick(1);
        check.equal("GRANT counts no more, DONE does", site.pair(0, 1), 0);
    }

    private static void answersTakeTheirFatesFirst() {
        CraneSite site = asking();
        Check.fates(site, 1, 0, 3);
        site.tick(1);
        site.order(1, 0, 0);
        site.tick(1);
        check.equalRows("GRANT is lost, FREE is not", Check.bus(site), Check.row(1, 3, 1, 1));
        site.tick(2);
        check.equal("FREE is on its way", site.pair(0, 0), 2);
        site.tick(1);
        check.equal("FREE came 3 later", site.pair(0, 0), 0);
    }

    private static void beatGoesBeforeAsk() {
        CraneSite site = asking();
        site.order(1, 0, 0);
        site.tick(9);
        site.order(1, 0, 1);
        Check.fates(site, 0, 1);
        site.tick(1);
        check.equalRows("BEAT is lost", Check.bus(site), Check.row(1, 2, 1, 0));
        site.tick(1);
        check.equal("ASK came", site.pair(0, 0), 2);
    }

    private static CraneSite threeAsking() {
        CraneSite site = new CraneSite();
        for (int p = 0; p < 3; p++) {
            site.share(p, 1800, 10, 100, 50);
        }
        site.order(1, 0, 1);
        site.order(2, 0, 1);
        return site;
    }

    private static void pairsInTheirOrder() {
        CraneSite site = threeAsking();
        Check.fates(site, 3, 2, 4);
        int[] due = {3, 2, 4};
        for (int t = 1; t <= 6; t++) {
            site.tick(1);
            for (int p = 0; p < 3; p++) {
                check.equal("pair " + p + " at " + t, site.pair(p, 0), t > due[p] ? 2 : 0);
            }
        }
    }

    private static void thirteenthIsLost() {
        CraneSite site = threeAsking();
        for (int i = 0; i < 12; i++) {
            site.fate(30);
        }
        // Those of the three that find the bus full, and of the three GRANTs behind them.
        Check.fates(site, 2, 2, 2, 5, 5, 5);
        site.tick(21);
        check.equalRows("ASKs, BEATs, BEATs, ASKs", Check.bus(site), Check.row(12, 12, 0, 0));
        site.tick(9);
        check.equalRows("the next BEATs are lost", Check.bus(site), Check.row(12, 15, 3, 0));
        site.tick(1);
        check.equalRows("ASKs came and are answered", Check.bus(site), Check.row(12, 18, 3, 3));
        site.tick(4);
        check.equal("GRANT is on its way", site.pair(0, 1), 1);
        site.tick(1);
        for (int p = 0; p < 3; p++) {
            check.equal("GRANT came 5 later", site.pair(p, 1), 2);
        }
        check.equalRows("three less", Check.bus(site), Check.row(9, 18, 3, 6));
    }
}
