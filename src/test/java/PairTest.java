/** Promise 11: pair. */
public final class PairTest {
    private static final Check check = new Check();

    public static void main(String[] args) {
        refuses();
        everyAnswer();
        inTheArcs();
        check.end();
    }

    private static void refuses() {
        CraneSite site = new CraneSite();
        check.refusesArgument("pair -1", () -> site.pair(-1, 0));
        check.refusesArgument("pair 3", () -> site.pair(3, 0));
        check.refusesArgument("what -1", () -> site.pair(0, -1));
        check.refusesArgument("what 5", () -> site.pair(0, 5));
    }

    private static void everyAnswer() {
        CraneSite site = new CraneSite();
        site.setUp(1, 1000);
        site.setUp(2, 150);
        site.share(2, 2000, 100, 100, 100);
        check.equalRows("before a tick", Check.pair(site, 2), Check.row(0, 0, 0, 0, 1));
        site.tick(1);
        check.equalRows("ASK is sent", Check.pair(site, 2), Check.row(0, 1, 1, 0, 1));
        site.tick(1);
        check.equalRows("GRANT is sent", Check.pair(site, 2), Check.row(2, 1, 0, 0, 1));
        site.tick(1);
        check.equalRows("GRANT came", Check.pair(site, 2), Check.row(2, 2, 1, 0, 1));
        site.order(2, 0, 10);
        site.tick(10);
        check.equalRows("it left the arc at speed", Check.pair(site, 2), Check.row(2, 2, 2, 0, 0));
        site.order(2, 0, 0);
        site.tick(11);
        check.equalRows("FREE is sent", Check.pair(site, 2), Check.row(2, 3, 3, 0, 0));
        site.tick(2);
        check.equalRows("DONE came", Check.pair(site, 2), Check.row(0, 0, 1, 0, 0));
        check.equalRows("another pair", Check.pair(site, 1), Check.row(0, 0, 26, 0, 0));
    }

    private static void inTheArcs() {
        int[] angles = {3589, 3590, 3599, 0, 9, 10};
        int[] due = {0, 1, 1, 1, 1, 0};
        for (int i = 0; i < angles.length; i++) {
            CraneSite site = new CraneSite();
            site.setUp(0, angles[i]);
            site.setUp(2, angles[angles.length - 1 - i]);
            site.share(1, 3590, 20, 3590, 20);
            check.equal("keeper at " + angles[i], site.pair(1, 3), due[i]);
            check.equal("asker", site.pair(1, 4), due[angles.length - 1 - i]);
        }
    }
}
