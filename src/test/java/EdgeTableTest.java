/** Terms: the sentences on a crane's table. */
public final class EdgeTableTest {
    private static final Check check = new Check();

    public static void main(String[] args) {
        check.sentence("ITS TABLE has up to 8 points", EdgeTableTest::allEightCount);
        check.sentence("between two of them it is on the line between (rounded down)", EdgeTableTest::roundedDown);
        check.sentence("between two of them .. the line: as long and steep as can be", EdgeTableTest::longestLine);
        check.sentence("inside the first one as there", EdgeTableTest::insideTheFirst);
        check.sentence("beyond the last one .. 0", EdgeTableTest::beyondTheLast);
        check.sentence("or without points, 0", EdgeTableTest::withoutPoints);
        check.sentence("It is OVERLOADED when the load is above that of its trolley.", EdgeTableTest::overloaded);
        check.end();
    }

    /** The radii of one site must rise; without a load nothing keeps the trolley. */
    private static int bearsAt(CraneSite site, int radius) {
        int way = radius - site.look(0, 2);
        site.order(0, 1, 5);
        run(site, way / 5);
        site.order(0, 1, 1);
        run(site, way % 5);
        check.equal("the trolley", site.look(0, 2), radius);
        return site.look(0, 5);
    }

    private static void run(CraneSite site, int ticks) {
        for (int left = ticks; left > 0; left -= 1000) {
            site.tick(Math.min(left, 1000));
        }
    }

    private static void allEightCount() {
        CraneSite site = new CraneSite();
        int[] loads = {1000, 3, 500, 7, 0, 900, 2, 1};
        for (int i = 0; i < 8; i++) {
            site.point(0, 10 * i, loads[i]);
        }
        for (int i = 0; i < 8; i++) {
            check.equal("load at point " + i, bearsAt(site, 10 * i), loads[i]);
        }
    }

    private static void roundedDown() {
        CraneSite site = new CraneSite();
        site.point(0, 0, 10);
        site.point(0, 4, 9);
        site.point(0, 8, 10);
        site.point(0, 9, 0);
        int[] due = {10, 9, 9, 9, 9, 9, 9, 9, 10, 0};
        for (int radius = 0; radius < due.length; radius++) {
            check.equal("load at " + radius, bearsAt(site, radius), due[radius]);
        }
    }

    private static void longestLine() {
        CraneSite falling = new CraneSite();
        falling.point(0, 0, 1000);
        falling.point(0, 6000, 0);
        int[] radii = {0, 1, 6, 7, 5999, 6000};
        int[] falls = {1000, 999, 999, 998, 0, 0};
        CraneSite rising = new CraneSite();
        rising.point(0, 0, 0);
        rising.point(0, 6000, 1000);
        int[] rises = {0, 0, 1, 1, 999, 1000};
        for (int i = 0; i < radii.length; i++) {
            check.equal("falling, at " + radii[i], bearsAt(falling, radii[i]), falls[i]);
            check.equal("rising, at " + radii[i], bearsAt(rising, radii[i]), rises[i]);
        }
    }

    private static void insideTheFirst() {
        CraneSite site = new CraneSite();
        site.point(0, 20, 300);
        site.point(0, 30, 200);
        check.equal("at the tower", bearsAt(site, 0), 300);
        check.equal("next to the first", bearsAt(site, 19), 300);
        check.equal("at the first", bearsAt(site, 20), 300);
        check.equal("behind the first", bearsAt(site, 21), 290);
    }

    private static void beyondTheLast() {
        CraneSite site = new CraneSite();
        site.point(0, 20, 300);
        check.equal("at the last, the first too", bearsAt(site, 20), 300);
        check.equal("beyond it", bearsAt(site, 21), 0);
        site.point(0, 30, 200);
        check.equal("now between", bearsAt(site, 21), 290);
        check.equal("at the last", bearsAt(site, 30), 200);
        check.equal("beyond it", bearsAt(site, 31), 0);
        check.equal("at the end", bearsAt(site, 6000), 0);

        CraneSite whole = new CraneSite();
        whole.point(0, 6000, 1000);
        check.equal("a last one at the end", bearsAt(whole, 6000), 1000);

        CraneSite bare = new CraneSite();
        bare.point(0, 0, 1000);
        check.equal("a last one at the tower", bearsAt(bare, 0), 1000);
        check.equal("beyond it", bearsAt(bare, 1), 0);
    }

    private static void withoutPoints() {
        CraneSite site = new CraneSite();
        site.point(1, 6000, 1000);
        check.equal("at the tower", bearsAt(site, 0), 0);
        check.equal("at the end", bearsAt(site, 6000), 0);
    }

    private static void overloaded() {
        CraneSite site = new CraneSite();
        check.equal("no load, no points", site.look(0, 6), 0);
        site.load(0, 1);
        check.equal("a load, no points", site.look(0, 6), 1);
        site.point(0, 10, 1);
        check.equal("as much as it bears", site.look(0, 6), 0);
        site.load(0, 2);
        check.equal("one more", site.look(0, 6), 1);

        CraneSite full = new CraneSite();
        full.point(0, 0, 1000);
        full.load(0, 1000);
        check.equal("the greatest load on the greatest", full.look(0, 6), 0);
    }
}
