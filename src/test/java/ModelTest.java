import java.util.Random;
import java.util.function.IntSupplier;

/** All promises: long runs of calls, drawn from fixed seeds, answer what the plain model answers. */
public final class ModelTest {
    private static final int RUNS = 3000;
    private static final int CALLS = 250;
    private static final int MOST_REPORTS = 20;
    private static final int ARGUMENT = Integer.MIN_VALUE;
    private static final int STATE = Integer.MIN_VALUE + 1;

    private final Check check;
    private final Random random;
    private final int seed;
    private final boolean slow;
    private final CraneSite site = new CraneSite();
    private final Model model = new Model();
    private int callsMade;
    private boolean wrong;

    private ModelTest(Check check, int seed) {
        this.check = check;
        this.seed = seed;
        this.random = new Random(seed);
        this.slow = seed % 4 == 0;
    }

    public static void main(String[] args) {
        Check check = new Check();
        int wrong = 0;
        for (int seed = 0; seed < RUNS && wrong < MOST_REPORTS; seed++) {
            ModelTest run = new ModelTest(check, seed);
            run.run();
            wrong += run.wrong ? 1 : 0;
        }
        check.end();
    }

    private void run() {
        boolean narrow = random.nextBoolean();
        prepare(narrow);
        while (callsMade < CALLS && !wrong) {
            int choice = random.nextInt(100);
            if (choice < 45) {
                tick(choice < 43 ? 1 + random.nextInt(12) : random.nextInt(200) - 2);
                compareAll();
            } else if (choice < 75) {
                order();
            } else if (choice < 85) {
                fate();
            } else if (choice < 92) {
                int c = crane();
                int load = random.nextInt(1010) - 4;
                same("load", () -> none(() -> site.load(c, load)), () -> none(() -> model.load(c, load)));
            } else if (choice < 94) {
                point();
            } else {
                tellOneOf(narrow);
            }
        }
    }

    private void prepare(boolean narrow) {
        for (int i = random.nextInt(24); i >= 0; i--) {
            tellOneOf(narrow);
        }
        for (int i = random.nextInt(6); i > 0; i--) {
            point();
        }
        for (int i = random.nextInt(slow ? 105 : 20); i > 0; i--) {
            fate();
        }
    }

    private void tellOneOf(boolean narrow) {
        int c = crane();
        int a = angle(narrow);
        int b = angle(narrow);
        int s = size(narrow);
        int t = size(narrow);
        switch (random.nextInt(3)) {
            case 0 -> same("setUp", () -> none(() -> site.setUp(c, a)), () -> none(() -> model.setUp(c, a)));
            case 1 -> same("forbid", () -> site.forbid(c, a, s), () -> model.forbid(c, a, s));
            default -> same("share", () -> none(() -> site.share(c, a, s, b, t)),
                    () -> none(() -> model.share(c, a, s, b, t)));
        }
    }

    private int crane() {
        return random.nextInt(40) == 0 ? (random.nextBoolean() ? -1 : 3) : random.nextInt(3);
    }

    /** Angles near 0 make cranes meet arcs often; the others find the ends of what is allowed. */
    private int angle(boolean narrow) {
        return narrow ? (3600 + random.nextInt(400) - 200) % 3600 : random.nextInt(3604) - 2;
    }

    private int size(boolean narrow) {
        if (narrow && random.nextInt(8) != 0) {
            return 1 + random.nextInt(60);
        }
        return random.nextInt(8) == 0 ? 3601 - random.nextInt(40) : random.nextInt(400);
    }

    private void order() {
        int c = crane();
        int what = random.nextInt(50) == 0 ? random.nextInt(6) - 2 : random.nextInt(3) * random.nextInt(2);
        int most = what == 0 ? 10 : what == 1 ? 5 : 20;
        int order = random.nextInt(3) == 0 ? 0 : random.nextInt(2 * most + 3) - most - 1;
        same("order", () -> none(() -> site.order(c, what, order)), () -> none(() -> model.order(c, what, order)));
    }

    private void point() {
        int c = crane();
        int radius = random.nextBoolean() ? random.nextInt(60) : random.nextInt(6010) - 5;
        int load = random.nextInt(1006) - 2;
        same("point", () -> site.point(c, radius, load), () -> model.point(c, radius, load));
    }

    /** In slow runs the bus gets full, in the others most that is sent is lost or soon there. */
    private void fate() {
        int f = slow ? 31 - random.nextInt(8) : random.nextInt(4) == 0 ? 0 : random.nextInt(33) - 1;
        same("fate", () -> site.fate(f), () -> model.fate(f));
    }

    private void tick(int n) {
        same("tick", () -> site.tick(n), () -> model.tick(n));
    }

    private void compareAll() {
        for (int i = 0; i < 3; i++) {
            int number = i;
            for (int w = 0; w < 8; w++) {
                int what = w;
                same("look " + i + " " + w, () -> site.look(number, what), () -> model.look(number, what));
            }
            for (int w = 0; w < 5; w++) {
                int what = w;
                same("pair " + i + " " + w, () -> site.pair(number, what), () -> model.pair(number, what));
            }
        }
        for (int w = 0; w < 4; w++) {
            int what = w;
            same("bus " + w, () -> site.bus(what), () -> model.bus(what));
        }
    }

    private void same(String call, IntSupplier one, IntSupplier other) {
        callsMade += call.startsWith("look") || call.startsWith("pair") || call.startsWith("bus") ? 0 : 1;
        int got = answer(one);
        int due = answer(other);
        if (got != due && !wrong) {
            wrong = true;
            check.fail("seed " + seed + ", call " + callsMade + ": " + call + " answered " + got + ", due is " + due);
        }
    }

    private static int none(Runnable call) {
        call.run();
        return 0;
    }

    private static int answer(IntSupplier call) {
        try {
            return call.getAsInt();
        } catch (IllegalArgumentException e) {
            return ARGUMENT;
        } catch (IllegalStateException e) {
            return STATE;
        }
    }
}
