/** Counts the answers that are not as due; end() makes them the test's exit code. */
final class Check {
    private static int wrong = 0;
    private static int seen = 0;

    private Check() {
    }

    static void due(String what, long got, long want) {
        seen++;
        if (got != want) {
            wrong++;
            if (wrong <= 40) System.out.println(what + " answered " + got + ", due is " + want);
        }
    }

    static void holds(String what, boolean is) {
        due(what, is ? 1 : 0, 1);
    }

    /** Feeds a text by as many bytes a call as there are, 8 at most. */
    static void feed(TwoHeads x, String text) {
        for (int i = 0; i < text.length(); i += 8) {
            int n = Math.min(8, text.length() - i);
            long bytes = 0;
            for (int k = 0; k < n; k++) bytes |= (long) (text.charAt(i + k) & 255) << 8 * k;
            x.feed(n, bytes);
        }
    }

    static int text(TwoHeads x, String text) {
        feed(x, text);
        return x.text();
    }

    static void end() {
        System.out.println(seen + " answers, " + wrong + " not as due");
        if (wrong != 0) System.exit(1);
    }
}
