import java.util.ArrayList;
import java.util.Arrays;
import java.util.List;

/**
 * All promises: every call with every choice of arguments at, below and above
 * its bounds, in towns that are new, full, old and between; each asked of
 * PlainTown too, and then all that can be seen of both.
 */
public final class EveryCallTest {
    private static final String MIXED =
        "warm 10;house 0 4 100;house 1 4 120;house 2 3 131;house 3 5 130;house 5 0 7;house 4 4 1999;deed 0 20;deed 5 999;"
        + "deed 1 -999;stake 4 0 2 45;stake 3 0 1 14;sheet 0 8 3;write 0 0 5;write 0 1 61;sheet 1 16 5;write 1 0 172;"
        + "sheet 2 64 3;image;years 3;hold 1 7;feed 2002874989 4;feed 8243 2;map 1 2";
    private static final String[] TOWNS = {
        "",
        MIXED,
        MIXED + ";edge 300;pace 0 0;" + "years 50;".repeat(15) + "years 46",
        "pace 0 0;pace 1 0;house 0 0 0;house 0 0 30;house 0 1 5;house 3 0 99;deed 0 0;deed 0 5;sheet 0 8 4;map 0 0;edge 100;"
            + "years 50;".repeat(19) + "years 49",
        "house 0 4 0;".repeat(12) + "deed 0 9;".repeat(10) + "stake 8 0 1 2;".repeat(10) + "sheet 3 64 40;image;"
            + "feed 538976288 4;".repeat(29) + "feed 32 3;years 1",
    };
    /** What each parameter is at, below and above its bounds. */
    private static final String FACE =
        "edge E;pace L P;warm W;goes L Y;strain L Y;crack L;house K L F;of H W5;hold H HO;as H K;turn H K;haul H N9;"
        + "years N5;now W3;ahead H A;over H;cost N6;safe K L N6;beside H;till H H;straight S A;when S;lay H L A6;deed H D;"
        + "deedOf d W1;whose d;meet d d M;stake L Y N6 G;learnt L W2;lost L F;feed B B4;wipe;town;sheet s b n;"
        + "write s i V;copy s i s i i;lays s;map s A;read s A;image;undo;tear;count W3;status W6";
    private static final String LOOK =
        "now 0;now 1;now 2;now 3;count 0;count 1;count 2;count 3;status -1;status 0;status 1;status 2;status 3;status 4;"
        + "status 5;status 6;goes 0 0;goes 1 1;goes 4 0;goes 8 0;learnt 0 2;learnt 4 2;learnt 8 2;map 3 0";

    private final List<String[]> look = calls(LOOK);
    private int wrong;

    public static void main(String[] args) throws Exception {
        EveryCallTest t = new EveryCallTest();
        for (int town = 0; town < TOWNS.length; town++) {
            t.isBuilt(town);
            for (String[] call : calls(FACE)) {
                t.choose(town, call, new long[call.length - 1], 0);
            }
        }
        if (t.wrong != 0) {
            System.exit(1);
        }
    }

    private static List<String[]> calls(String text) {
        List<String[]> all = new ArrayList<>();
        for (String call : text.split(";")) {
            if (!call.isEmpty()) {
                all.add(call.split(" "));
            }
        }
        return all;
    }

    /** A town whose acts are refused would be poorer than it is told. */
    private void isBuilt(int town) {
        PlainTown plain = new PlainTown();
        for (String[] call : calls(TOWNS[town])) {
            plain.answer(call[0], numbers(call));
        }
        long findings = plain.answer("status", new long[] {-1});
        if (findings != 0) {
            wrong++;
            System.out.println("EveryCallTest: town " + town + " is built with " + findings + " findings");
        }
    }

    private void choose(int town, String[] call, long[] args, int k) throws Exception {
        if (k == args.length) {
            compare(town, call[0], args);
            return;
        }
        for (long v : values(call[k + 1])) {
            args[k] = v;
            choose(town, call, args, k + 1);
        }
    }

    private void compare(int town, String name, long[] args) throws Exception {
        if (wrong >= 10) {
            return;
        }
        GlacierStreets x = new GlacierStreets();
        PlainTown plain = new PlainTown();
        for (String[] call : calls(TOWNS[town])) {
            same(x, plain, town, "built by", call[0], numbers(call));
        }
        String then = name + Arrays.toString(args) + ", then";
        same(x, plain, town, "asked", name, args);
        for (String[] call : look) {
            same(x, plain, town, then, call[0], numbers(call));
        }
        for (int h = 0; h < 13; h++) {
            for (int what = 2; what <= 5; what++) {
                same(x, plain, town, then, "of", new long[] {h, what});
            }
        }
        for (int d = 0; d < 11; d++) {
            same(x, plain, town, then, "deedOf", new long[] {d, 1});
        }
        for (int s = 0; s < 4; s++) {
            for (int i = 0; i < 6; i++) {
                same(x, plain, town, then, "write", new long[] {s, i, 0});
            }
        }
        same(x, plain, town, then, "town", new long[0]);
        same(x, plain, town, then, "undo", new long[0]);
        same(x, plain, town, then, "now", new long[] {1});
    }

    private void same(GlacierStreets x, PlainTown plain, int town, String when, String name, long[] args)
            throws Exception {
        long due = plain.answer(name, args);
        long got = Asker.ask(x, name, args);
        if (got != due) {
            wrong++;
            System.out.println("EveryCallTest: town " + town + ", " + when + " " + name + Arrays.toString(args)
                + " answered " + got + ", due is " + due);
        }
    }

    private static long[] numbers(String[] call) {
        long[] args = new long[call.length - 1];
        for (int k = 0; k < args.length; k++) {
            args[k] = Long.parseLong(call[k + 1]);
        }
        return args;
    }

    private static long[] values(String kind) {
        int low = Integer.MIN_VALUE;
        int high = Integer.MAX_VALUE;
        switch (kind) {
            case "E": return new long[] {low, 0, 99, 100, 101, 131, 139, 140, 141, 142, 300, 2000, 9998, 9999, 10000, high};
            case "L": return new long[] {-1, 0, 1, 4, 7, 8, 9};
            case "P": return new long[] {low, -1, 0, 1, 60, 61, high};
            case "W": return new long[] {low, -1, 0, 1, 127, 128, high};
            case "Y": return new long[] {low, -1, 0, 1, 7, 998, 999, 1000, high};
            case "K": return new long[] {-1, 0, 1, 2, 3, 4, 5, 6};
            case "F": return new long[] {low, -1, 0, 1, 99, 100, 299, 300, 1600, 1999, 2000, high};
            case "H": return new long[] {low, -1, 0, 1, 2, 3, 5, 6, 11, 12, high};
            case "HO": return new long[] {-1, 0, 18, 99, 100, high};
            case "N9": return new long[] {low, -1, 0, 1, 17, 154, 155, 9999, 10000, high};
            case "N5": return new long[] {low, -1, 0, 1, 2, 49, 50, 51, high};
            case "N6": return new long[] {-1, 0, 1, 2, 59, 60, 61, high};
            case "A": return new long[] {low, -1, 0, 1, 2, 199, 200, 201, high};
            case "A6": return new long[] {low, -1, 0, 1, 2, 59, 60, 61, high};
            case "S": return new long[] {low, -1, 0, 1, 2, 3, 5, 7, 15, 31, 33, 63, 64, 65, 4095, 4096, 4097, high};
            case "D": return new long[] {low, -1000, -999, -1, 0, 999, 1000, high};
            case "d": return new long[] {low, -1, 0, 1, 2, 3, 9, 10, high};
            case "M": return new long[] {low, -1, 0, 20, 998, 999, 1000, high};
            case "G": return new long[] {low, -1, 0, 1, 120, 9999, 10000};
            case "B": return new long[] {low, -1, 0, 49, high};
            case "B4": return new long[] {low, -1, 0, 1, 2, 3, 4, 5, high};
            case "s": return new long[] {-1, 0, 1, 3, 4};
            case "b": return new long[] {low, -8, 0, 7, 8, 16, 32, 64, high};
            case "n": return new long[] {low, -1, 0, 1, 39, 40, 41, high};
            case "i": return new long[] {low, -1, 0, 1, 3, 4, 40, high};
            case "V": return new long[] {Long.MIN_VALUE, -129, -1, 128, 32768, Long.MAX_VALUE};
            default: return range(Integer.parseInt(kind.substring(1)));
        }
    }

    /** Numbers of a "what", and one or two off on either side. */
    private static long[] range(int most) {
        long[] all = new long[most + 6];
        all[0] = Integer.MIN_VALUE;
        all[1] = Integer.MAX_VALUE;
        for (int i = 2; i < all.length; i++) {
            all[i] = i - 4;
        }
        return all;
    }
}
