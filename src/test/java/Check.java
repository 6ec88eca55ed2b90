/** Counts the answers that are not the due ones, and ends the program with 1 if there were any. */
final class Check {
    private int wrong;
    private String sentence = "";

    /** Runs the test of one sentence of the document; what fails in it is told with these words. */
    void sentence(String words, Runnable test) {
        sentence = "\"" + words + "\": ";
        try {
            test.run();
        } catch (RuntimeException thrown) {
            fail("a call threw " + thrown);
        }
        sentence = "";
    }

    void equal(String what, int got, int want) {
        if (got != want) {
            fail(what + " answered " + got + ", due is " + want);
        }
    }

    void equalRows(String what, int[] got, int[] want) {
        for (int i = 0; i < want.length; i++) {
            equal(what + " [" + i + "]", got[i], want[i]);
        }
    }

    void refusesArgument(String what, Runnable call) {
        refuses(what, IllegalArgumentException.class, call);
    }

    void refusesState(String what, Runnable call) {
        refuses(what, IllegalStateException.class, call);
    }

    private void refuses(String what, Class<? extends RuntimeException> due, Runnable call) {
        try {
            call.run();
        } catch (RuntimeException thrown) {
            if (thrown.getClass() != due) {
                fail(what + " threw " + thrown + ", due is " + due.getName());
            }
            return;
        }
        fail(what + " threw nothing, due is " + due.getName());
    }

    void fail(String text) {
        wrong++;
        System.out.println(sentence + text);
    }

    void end() {
        if (wrong != 0) {
            System.out.println(wrong + " answers are not as due");
            System.exit(1);
        }
    }

    /** All that can be seen of a site, in 43 calls. */
    static int[] all(CraneSite site) {
        int[] seen = new int[3 * (8 + 5) + 4];
        int at = 0;
        for (int i = 0; i < 3; i++) {
            System.arraycopy(look(site, i), 0, seen, at, 8);
            System.arraycopy(pair(site, i), 0, seen, at + 8, 5);
            at += 13;
        }
        System.arraycopy(bus(site), 0, seen, at, 4);
        return seen;
    }

    /** All that look answers of a crane. */
    static int[] look(CraneSite site, int crane) {
        int[] seen = new int[8];
        for (int what = 0; what < seen.length; what++) {
            seen[what] = site.look(crane, what);
        }
        return seen;
    }

    /** All that pair answers of a pair. */
    static int[] pair(CraneSite site, int pair) {
        int[] seen = new int[5];
        for (int what = 0; what < seen.length; what++) {
            seen[what] = site.pair(pair, what);
        }
        return seen;
    }

    /** All that bus answers. */
    static int[] bus(CraneSite site) {
        int[] seen = new int[4];
        for (int what = 0; what < seen.length; what++) {
            seen[what] = site.bus(what);
        }
        return seen;
    }

    static int[] row(int... numbers) {
        return numbers;
    }

    static void fates(CraneSite site, int... fates) {
        for (int f : fates) {
            site.fate(f);
        }
    }
}
