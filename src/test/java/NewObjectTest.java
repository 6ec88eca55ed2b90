/** Promise 1: a new object. */
public final class NewObjectTest {
    private static final Check check = new Check();

    public static void main(String[] args) {
        nothingIsTold();
        timeBeginsAtOne();
        heardAtTickZero();
        objectsAreApart();
        check.end();
    }

    private static void nothingIsTold() {
        CraneSite site = new CraneSite();
        for (int i = 0; i < 3; i++) {
            check.equalRows("look of new crane " + i, Check.look(site, i), new int[8]);
            check.equalRows("pair of new pair " + i, Check.pair(site, i), new int[5]);
        }
        check.equalRows("bus of a new object", Check.bus(site), new int[4]);
        check.equal("first fate", site.fate(1), 1);
    }

    private static void timeBeginsAtOne() {
        CraneSite site = new CraneSite();
        check.equal("first tick", site.tick(1), 1);
        for (int i = 0; i < 3; i++) {
            check.equalRows("a crane without orders stands " + i, Check.look(site, i), new int[8]);
        }
        check.equalRows("no arcs, no messages", Check.bus(site), new int[4]);
    }

    private static void heardAtTickZero() {
        CraneSite site = new CraneSite();
        site.tick(37);
        for (int p = 0; p < 3; p++) {
            check.equal("ticks since heard of pair " + p, site.pair(p, 2), 37);
        }
    }

    private static void objectsAreApart() {
        CraneSite one = new CraneSite();
        one.setUp(0, 77);
        one.load(0, 5);
        one.fate(3);
        one.share(0, 70, 20, 0, 1);
        one.tick(3);
        CraneSite other = new CraneSite();
        check.equalRows("look beside another object", Check.look(other, 0), new int[8]);
        check.equalRows("pair beside another object", Check.pair(other, 0), new int[5]);
        check.equal("fate beside another object", other.fate(0), 1);
    }
}
