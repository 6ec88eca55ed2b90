import java.util.function.IntConsumer;

/** Promises 2 to 12: of each the sentence that says which arguments are refused, and that nothing comes of them. */
public final class EdgeArgumentTest {
    private static final Check check = new Check();
    private static final int LEAST = Integer.MIN_VALUE;
    private static final int MOST = Integer.MAX_VALUE;

    public static void main(String[] args) {
        check.sentence("setUp: no such crane or angle", EdgeArgumentTest::setUp);
        check.sentence("point: no such crane, radius (0 .. 6,000) or load (0 .. 1,000)", EdgeArgumentTest::point);
        check.sentence("point: or the radius does not rise", EdgeArgumentTest::risingRadius);
        check.sentence("forbid: no such crane or arc", EdgeArgumentTest::forbid);
        check.sentence("share: no such pair or arcs", EdgeArgumentTest::share);
        check.sentence("order: no such crane, what or order", EdgeArgumentTest::order);
        check.sentence("load: no such crane or load", EdgeArgumentTest::load);
        check.sentence("One more fate (0 .. 30): it is not so", EdgeArgumentTest::fate);
        check.sentence("n ticks (1 .. 1,000): n is not so", EdgeArgumentTest::tick);
        check.sentence("look: no such crane or what", EdgeArgumentTest::look);
        check.sentence("pair: no such pair or what", EdgeArgumentTest::pair);
        check.sentence("bus: no such what", EdgeArgumentTest::bus);
        check.end();
    }

    /** The numbers next to the range and the ends of int are refused, and all stays as it was. */
    private static void refuses(CraneSite site, String what, int least, int most, IntConsumer call) {
        int[] before = Check.all(site);
        for (int wrong : Check.row(least - 1, most + 1, LEAST, MOST)) {
            check.refusesArgument(what + " " + wrong, () -> call.accept(wrong));
        }
        check.equalRows("behind a refused " + what, Check.all(site), before);
    }

    private static void setUp() {
        CraneSite site = new CraneSite();
        site.setUp(0, 3599);
        site.setUp(2, 7);
        refuses(site, "crane", 0, 2, c -> site.setUp(c, 5));
        for (int c = 0; c < 3; c++) {
            int crane = c;
            refuses(site, "angle", 0, 3599, a -> site.setUp(crane, a));
        }
        site.setUp(2, 0);
        check.equal("least and greatest angle", site.look(0, 0) - site.look(2, 0), 3599);
    }

    private static void point() {
        CraneSite site = new CraneSite();
        refuses(site, "crane", 0, 2, c -> site.point(c, 5, 5));
        refuses(site, "radius", 0, 6000, r -> site.point(2, r, 5));
        refuses(site, "load", 0, 1000, l -> site.point(2, 5, l));
        check.equal("least radius, greatest load", site.point(2, 0, 1000), 1);
        check.equal("greatest radius, least load", site.point(2, 6000, 0), 2);
        check.equal("the other cranes have none", site.point(0, 1, 1) + site.point(1, 1, 1), 2);
    }

    private static void risingRadius() {
        CraneSite site = new CraneSite();
        site.point(0, 0, 9);
        check.refusesArgument("radius 0 again", () -> site.point(0, 0, 8));
        check.equal("one more rises", site.point(0, 1, 8), 2);
        site.point(0, 100, 7);
        check.refusesArgument("the latest radius", () -> site.point(0, 100, 6));
        check.refusesArgument("one less", () -> site.point(0, 99, 6));
        check.refusesArgument("the first radius", () -> site.point(0, 0, 6));
        check.equal("one more rises", site.point(0, 101, 6), 4);
        check.equal("of another crane a lower one rises too", site.point(1, 50, 6), 1);
        site.point(0, 6000, 5);
        check.refusesArgument("nothing rises behind 6,000", () -> site.point(0, 6000, 5));
        check.equal("the first point is as it was", site.look(0, 5), 9);
    }

    private static void forbid() {
        CraneSite site = new CraneSite();
        refuses(site, "crane", 0, 2, c -> site.forbid(c, 0, 5));
        refuses(site, "from", 0, 3599, f -> site.forbid(0, f, 5));
        refuses(site, "size", 1, 3599, s -> site.forbid(0, 0, s));
        check.equal("least from and size", site.forbid(0, 0, 1), 1);
        check.equal("greatest from and size", site.forbid(0, 3599, 3599), 2);
        check.equal("the other cranes have none", site.forbid(1, 5, 5) + site.forbid(2, 5, 5), 2);
    }

    private static void share() {
        CraneSite site = new CraneSite();
        refuses(site, "pair", 0, 2, p -> site.share(p, 0, 5, 0, 5));
        refuses(site, "keeper's from", 0, 3599, f -> site.share(0, f, 5, 0, 5));
        refuses(site, "keeper's size", 1, 3599, s -> site.share(0, 0, s, 0, 5));
        refuses(site, "asker's from", 0, 3599, f -> site.share(0, 0, 5, f, 5));
        refuses(site, "asker's size", 1, 3599, s -> site.share(0, 0, 5, 0, s));
        site.share(0, 0, 1, 3599, 3599);
        site.share(2, 3599, 3599, 0, 1);
        check.equalRows("least and greatest", Check.pair(site, 0), Check.row(0, 0, 0, 1, 1));
        check.equalRows("greatest and least", Check.pair(site, 2), Check.row(0, 0, 0, 1, 1));
    }

    private static void order() {
        CraneSite site = new CraneSite();
        int[] most = {10, 5, 20};
        for (int w = 0; w < 3; w++) {
            int what = w;
            refuses(site, "order of " + what, -most[what], most[what], o -> site.order(1, what, o));
        }
        refuses(site, "crane", 0, 2, c -> site.order(c, 0, 1));
        refuses(site, "what", 0, 2, w -> site.order(1, w, 0));
        site.tick(1);
        check.equalRows("refused orders move nothing", Check.look(site, 1), new int[8]);
        for (int what = 0; what < 3; what++) {
            site.order(0, what, most[what]);
            site.order(1, what, most[what]);
            site.order(1, what, -most[what]);
        }
        site.tick(1);
        check.equalRows("greatest orders", Check.look(site, 0), Check.row(1, 1, 5, 20, 0, 0, 0, 0));
        check.equalRows("least orders", Check.look(site, 1), Check.row(3599, -1, 0, 0, 0, 0, 0, 0));
    }

    private static void load() {
        CraneSite site = new CraneSite();
        site.load(1, 500);
        refuses(site, "crane", 0, 2, c -> site.load(c, 5));
        refuses(site, "load", 0, 1000, l -> site.load(1, l));
        site.load(0, 1000);
        site.load(1, 0);
        site.load(2, 1000);
        check.equal("greatest load of the first crane", site.look(0, 4), 1000);
        check.equal("least load", site.look(1, 4), 0);
        check.equal("greatest load of the last crane", site.look(2, 4), 1000);
    }

    private static void fate() {
        CraneSite site = new CraneSite();
        refuses(site, "fate", 0, 30, f -> site.fate(f));
        check.equal("least, and no refused one waits", site.fate(0), 1);
        refuses(site, "fate", 0, 30, f -> site.fate(f));
        check.equal("greatest", site.fate(30), 2);
    }

    private static void tick() {
        CraneSite site = new CraneSite();
        site.share(0, 1000, 5, 0, 5);
        site.order(0, 0, 10);
        refuses(site, "n", 1, 1000, n -> site.tick(n));
        check.equal("least n, and no refused one counts", site.tick(1), 1);
        refuses(site, "n", 1, 1000, n -> site.tick(n));
        check.equal("greatest n", site.tick(1000), 1001);
    }

    private static void look() {
        CraneSite site = new CraneSite();
        refuses(site, "crane", 0, 2, c -> site.look(c, 0));
        for (int c = 0; c < 3; c++) {
            int crane = c;
            refuses(site, "what", 0, 7, w -> site.look(crane, w));
        }
    }

    private static void pair() {
        CraneSite site = new CraneSite();
        refuses(site, "pair", 0, 2, p -> site.pair(p, 0));
        for (int p = 0; p < 3; p++) {
            int pair = p;
            refuses(site, "what", 0, 4, w -> site.pair(pair, w));
        }
    }

    private static void bus() {
        CraneSite site = new CraneSite();
        refuses(site, "what", 0, 3, w -> site.bus(w));
    }
}
