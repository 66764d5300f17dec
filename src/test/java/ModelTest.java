import java.util.ArrayList;
import java.util.Arrays;
import java.util.List;
import java.util.Map;
import java.util.Random;
import java.util.TreeMap;

/** All promises: long runs of calls by chance (from a fixed seed), each asked of PlainTown too. */
public final class ModelTest {
    private static final int RUNS = 1500;
    private static final int CALLS = 512;
    /** What each parameter is, so that most calls mean something. */
    private static final String FACE =
        "edge E;pace L P;warm W;goes L Y;strain L Y;crack L;house K L F;of H 5;hold H 99;as H K;turn H K;"
        + "haul H U;years N;now 3;ahead H A;over H;cost 60;safe K L 60;beside H;till H H;straight S A;when S;"
        + "lay H L 60;deed H D;deedOf d 1;whose d;meet d d 999;stake L Y 60 G;learnt L 2;lost L F;feed B 4;wipe;"
        + "town;sheet s b 40;write s 20 V;copy s 20 s 20 20;lays s;map s A;read s A;image;undo;tear;count 3;status 6";
    private static final String[] PIECES = {
        "edge", "pace", "warm", "house", "roped", "sledge", "church", "ferry", "deep", "stake",
        "at", "hold", "from", "for", "went", ";", ";", " ", "0", "1", "4", "5", "99", "100", "999", "2000", "9999",
        "10000", "e", "x", "-", "\t",
    };

    private final Random random;
    private final List<String[]> face = new ArrayList<>();
    private final Map<String, Integer> rare = new TreeMap<>();
    private int wrong;

    private ModelTest(long seed) {
        random = new Random(seed);
        for (String call : FACE.split(";")) {
            face.add(call.split(" "));
        }
    }

    public static void main(String[] args) throws Exception {
        ModelTest t = new ModelTest(20261117);
        for (int run = 0; run < RUNS && t.wrong < 10; run++) {
            t.run(run);
        }
        t.lookForAnswersThatNeverCame();
        if (t.wrong != 0) {
            System.exit(1);
        }
    }

    /** A run that never meets an answer tells nothing of it. */
    private void lookForAnswersThatNeverCame() {
        for (String[] call : face) {
            if (!rare.containsKey(call[0] + " well")) {
                wrong++;
                System.out.println("ModelTest: " + call[0] + " never answered but by a finding");
            }
        }
        String[] must = {
            "edge STATE", "crack NONE", "house FULL", "as KIND", "haul STATE", "years STATE", "ahead STATE",
            "over STATE", "over NONE", "cost STATE", "safe STATE", "safe NONE", "beside STATE", "till STATE",
            "straight STATE", "when STATE", "when NONE", "lay STATE", "deed STATE", "deed FULL", "whose NONE",
            "stake FULL", "learnt NONE", "lost STATE", "lost NONE", "feed FULL", "sheet SIZE", "write MISSING",
            "copy MISSING", "copy KIND", "lays MISSING", "map MISSING", "map STATE", "read STATE", "undo NONE",
        };
        for (String m : must) {
            if (!rare.containsKey(m)) {
                wrong++;
                System.out.println("ModelTest: never came: " + m);
            }
        }
    }

    private void run(int run) throws Exception {
        GlacierStreets x = new GlacierStreets();
        PlainTown plain = new PlainTown();
        StringBuilder told = new StringBuilder();
        List<String[]> todo = new ArrayList<>();
        int style = run % 4;
        settle(todo);
        for (int i = 0; i < CALLS; i++) {
            while (todo.isEmpty()) {
                plan(todo, style);
            }
            String[] call = todo.remove(0);
            long[] args = new long[call.length - 1];
            for (int k = 0; k < args.length; k++) {
                args[k] = argument(call[k + 1]);
            }
            long due = plain.answer(call[0], args);
            long got = Asker.ask(x, call[0], args);
            told.append(call[0]).append(Arrays.toString(args)).append(" = ").append(due).append('\n');
            note(call[0], due);
            if (got != due) {
                wrong++;
                System.out.println(told + "ModelTest: run " + run + " answered " + got + " to the last");
                return;
            }
        }
    }

    private void note(String name, long due) {
        String[] names = {"BEYOND", "FULL", "KIND", "NONE", "STATE", "MISSING", "SIZE"};
        int which = (int) (-1000000001 - due);
        boolean finding = due <= -1000000001 && due >= -1000000007 && !name.equals("write") || which == 5;
        rare.merge(name + " " + (finding ? names[which] : "well"), 1, Integer::sum);
    }

    /** Some houses, deeds and sheets ahead of all else, or most calls would have none to speak of. */
    private void settle(List<String[]> todo) {
        for (int i = random.nextInt(13); i > 0; i--) {
            todo.add(new String[] {"house", "K", "L", random.nextBoolean() ? "F" : "30"});
        }
        for (int i = random.nextInt(12); i > 0; i--) {
            todo.add(new String[] {"deed", "H", "D"});
        }
        for (int s = random.nextInt(5) - 1; s >= 0; s--) {
            todo.add(new String[] {"sheet", "=" + s, "b", "40"});
        }
    }

    /** One call by chance, or a whole text and the town it tells, or a tape that runs full. */
    private void plan(List<String[]> todo, int style) {
        if (random.nextInt(40) == 0) {
            todo.add(new String[] {"wipe"});
            String text = random.nextInt(3) == 0 ? badText() : goodText();
            for (int i = 0; i < text.length() && i < 120; i += 4) {
                int n = Math.min(4, text.length() - i);
                int bytes = random.nextInt();
                for (int k = i; k < i + n; k++) {
                    bytes = bytes << 8 | text.charAt(k);
                }
                todo.add(new String[] {"feed", "=" + bytes, "=" + n});
            }
            todo.add(new String[] {"town"});
            return;
        }
        if (random.nextInt(200) == 0) {
            for (int i = 0; i < 31; i++) {
                todo.add(new String[] {"feed", "B", "4"});
            }
            return;
        }
        String[] call = face.get(random.nextInt(face.size()));
        boolean late = call[0].equals("years") && style != 3 && random.nextInt(4) != 0;
        boolean empties = (call[0].equals("undo") || call[0].equals("tear")) && random.nextInt(4) != 0;
        if (!late && !empties) {
            todo.add(call);
        }
        if (style == 2 && random.nextInt(3) == 0) {
            todo.add(new String[] {"years", "=50"});
        }
    }

    private String badText() {
        StringBuilder s = new StringBuilder(goodText());
        for (int i = random.nextInt(3); i >= 0; i--) {
            s.insert(random.nextInt(s.length() + 1), PIECES[random.nextInt(PIECES.length)]);
        }
        if (random.nextInt(3) == 0) {
            s.setLength(random.nextInt(s.length() + 1));
        }
        return s.toString();
    }

    private String goodText() {
        List<String> items = new ArrayList<>();
        for (int i = random.nextInt(4); i >= 0; i--) {
            switch (random.nextInt(6)) {
                case 0:
                    items.add("edge " + (100 + random.nextInt(4000)));
                    break;
                case 1:
                    items.add("pace " + random.nextInt(9) + " " + random.nextInt(61));
                    break;
                case 2:
                    items.add("warm " + random.nextInt(3) + (random.nextBoolean() ? " 4" : "") + " 6 ");
                    break;
                case 3:
                    items.add("stake " + random.nextInt(9) + " from 0 for 1 went " + random.nextInt(60));
                    break;
                default:
                    items.add(PIECES[3 + random.nextInt(6)] + random.nextInt(9) + "at" + random.nextInt(1500)
                        + (random.nextBoolean() ? "hold" + random.nextInt(100) : ""));
            }
        }
        return String.join(random.nextBoolean() ? ";" : " ; ", items);
    }

    private long argument(String kind) {
        if (kind.charAt(0) == '=') {
            return Long.parseLong(kind.substring(1));
        }
        if (random.nextInt(60) == 0) {
            return wild();
        }
        switch (kind) {
            case "E": return random.nextInt(4) == 0 ? random.nextInt(10100) : 1000 + random.nextInt(2000);
            case "L": return slip(9);
            case "P": return slip(61);
            case "W": return slip(128);
            case "Y": return slip(1000);
            case "K": return slip(6);
            case "F": return random.nextInt(3) == 0 ? 1800 + random.nextInt(210) : random.nextInt(300);
            case "H": return random.nextInt(random.nextBoolean() ? 4 : 12);
            case "U": return random.nextInt(random.nextBoolean() ? 30 : 10001);
            case "N": return 1 + random.nextInt(random.nextInt(4) == 0 ? 51 : 3);
            case "A": return random.nextInt(random.nextBoolean() ? 10 : 202);
            case "S": return random.nextInt(random.nextBoolean() ? 16 : 4096);
            case "D": return random.nextInt(random.nextBoolean() ? 2001 : 200) - 1000 / (1 + random.nextInt(20));
            case "d": return random.nextInt(random.nextBoolean() ? 3 : 10);
            case "G": return random.nextInt(random.nextInt(4) == 0 ? 10001 : 61);
            case "B": return random.nextInt();
            case "s": return slip(4);
            case "b": return new int[] {0, 8, 8, 16, 16, 64, 64, 32}[random.nextInt(8)];
            case "V": return random.nextBoolean() ? random.nextInt(80) : random.nextLong() >> random.nextInt(64);
            default: return slip(Integer.parseInt(kind) + 1);
        }
    }

    /** Below the bound, and now and then one off on either side. */
    private int slip(int bound) {
        return random.nextInt(12) == 0 ? random.nextInt(bound + 2) - 1 : random.nextInt(bound);
    }

    private int wild() {
        int[] some = {Integer.MIN_VALUE, Integer.MAX_VALUE, -1, -2, 1 << 16, 10000, random.nextInt()};
        return some[random.nextInt(some.length)];
    }
}
