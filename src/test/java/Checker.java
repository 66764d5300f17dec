/** Counts the answers of a test that are not as due, and ends it. */
final class Checker {
    static final int BEYOND = -1000000001;
    static final int FULL = -1000000002;
    static final int KIND = -1000000003;
    static final int NONE = -1000000004;
    static final int STATE = -1000000005;
    static final int MISSING = -1000000006;
    static final int SIZE = -1000000007;

    private final String name;
    private int wrong;

    Checker(String name) {
        this.name = name;
    }

    void due(String call, long got, long want) {
        if (got != want) {
            wrong++;
            System.out.println(name + ": " + call + " answered " + got + ", due is " + want);
        }
    }

    void holds(String what, boolean does) {
        if (!does) {
            wrong++;
            System.out.println(name + ": " + what + " does not hold");
        }
    }

    void end() {
        if (wrong != 0) {
            System.out.println(name + ": " + wrong + " answers are not as due");
            System.exit(1);
        }
    }

    /** Puts a text on the tape, four bytes a call and the rest in one. */
    static void feed(GlacierStreets x, String text) {
        for (int i = 0; i < text.length(); i += 4) {
            int n = Math.min(4, text.length() - i);
            int bytes = 0;
            for (int k = 0; k < n; k++) {
                bytes = bytes << 8 | text.charAt(i + k);
            }
            x.feed(bytes, n);
        }
    }

    static int town(GlacierStreets x, String text) {
        feed(x, text);
        return x.town();
    }

    /** Lets many years go, fifty a call. */
    static void pass(GlacierStreets x, int years) {
        for (int left = years; left > 0; left -= 50) {
            x.years(Math.min(50, left));
        }
    }
}
