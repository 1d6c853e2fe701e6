/** Holds answers against what is due, and ends a test. */
final class Due {
    private int held = 0;
    private int wrong = 0;

    void is(String call, int got, int want) {
        held++;
        if (got != want) {
            wrong++;
            System.out.println(call + " answered " + got + ", due is " + want);
        }
    }

    /** Two rows of answers, one a line: the first lines that are unlike are told. */
    void same(String what, String got, String want) {
        held++;
        if (got.equals(want)) return;
        wrong++;
        String[] a = got.split("\n"), b = want.split("\n");
        int k = 0;
        while (k < a.length - 1 && k < b.length - 1 && a[k].equals(b[k])) k++;
        System.out.println(what + ": [" + a[k] + "], due is [" + b[k] + "]");
    }

    /** Exits with 1 if an answer was wrong, or if nothing was held at all. */
    void end() {
        System.out.println(held + " answers, " + wrong + " not as due");
        if (wrong != 0 || held == 0) System.exit(1);
    }

    static void feed(OvenPairs x, String text) {
        for (int at = 0; at < text.length(); at += 8) {
            int n = Math.min(8, text.length() - at);
            long eight = 0;
            for (int k = 0; k < n; k++) eight |= (long) (text.charAt(at + k) & 255) << (8 * k);
            if (x.feed(eight, n) < 0) throw new IllegalStateException("the tape refused " + text);
        }
    }

    static int tell(OvenPairs x, String text) {
        feed(x, text);
        return x.rules();
    }
}
