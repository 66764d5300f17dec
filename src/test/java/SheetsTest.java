/** Promises 35 to 40: sheet, write, copy, lays, map, read. */
public final class SheetsTest {
    private static final Checker c = new Checker("SheetsTest");

    public static void main(String[] args) {
        sheet();
        write();
        copy();
        lays();
        map();
        read();
        c.end();
    }

    private static void sheet() {
        GlacierStreets x = new GlacierStreets();
        c.due("sheet(-1, 8, 1)", x.sheet(-1, 8, 1), Checker.BEYOND);
        c.due("sheet(4, 8, -1)", x.sheet(4, 8, -1), Checker.BEYOND);
        c.due("sheet(0, 32, -1)", x.sheet(0, 32, -1), Checker.BEYOND);
        c.due("sheet(0, -8, 1)", x.sheet(0, -8, 1), Checker.BEYOND);
        c.due("sheet(0, 8, -1)", x.sheet(0, 8, -1), Checker.SIZE);
        c.due("sheet(0, 0, -1)", x.sheet(0, 0, -1), Checker.SIZE);
        c.due("sheet(0, 8, 41)", x.sheet(0, 8, 41), Checker.BEYOND);
        c.due("sheet(0, 0, 41)", x.sheet(0, 0, 41), Checker.BEYOND);
        c.due("sheet(3, 8, 40)", x.sheet(3, 8, 40), 40);
        c.due("sheet(3, 16, 0)", x.sheet(3, 16, 0), 0);
        c.due("an empty one isn't missing", x.lays(3), 0);
        c.due("sheet(3, 64, 2)", x.sheet(3, 64, 2), 2);
        x.write(3, 0, 4);
        x.write(3, 1, 5);
        c.due("sheet(3, 64, 3)", x.sheet(3, 64, 3), 3);
        c.due("all are 0 then", x.write(3, 0, 0), 0);
        c.due("all are 0 then", x.write(3, 1, 0), 0);
        c.due("sheet(3, 0, 40)", x.sheet(3, 0, 40), 0);
        c.due("it is missing", x.write(3, 0, 0), Checker.MISSING);
    }

    private static void write() {
        GlacierStreets x = new GlacierStreets();
        c.due("no such sheet", x.write(4, 0, 0), Checker.BEYOND);
        c.due("no such sheet", x.write(-1, 0, 0), Checker.BEYOND);
        c.due("missing", x.write(0, -1, 0), Checker.MISSING);
        x.sheet(0, 8, 2);
        x.sheet(1, 16, 2);
        x.sheet(2, 64, 2);
        c.due("no such number", x.write(0, 2, 0), Checker.BEYOND);
        c.due("no such number", x.write(0, -1, 0), Checker.BEYOND);
        long v = 0x123456789ABCDEF0L;
        for (int s = 0; s < 3; s++) {
            c.due("it was 0", x.write(s, 1, v), 0);
        }
        c.due("8 bits with a sign", x.write(0, 1, 127), (byte) 0xF0);
        c.due("16 bits with a sign", x.write(1, 1, 32768), (short) 0xDEF0);
        c.due("64 bits", x.write(2, 1, Checker.BEYOND), v);
        c.due("8 bits", x.write(0, 1, 128), 127);
        c.due("8 bits", x.write(0, 1, 0), -128);
        c.due("16 bits", x.write(1, 1, 0), -32768);
        c.due("status", x.status(0), 4);
        c.due("a number like a finding", x.write(2, 1, Long.MIN_VALUE), Checker.BEYOND);
        c.due("it is none", x.status(0), 4);
        c.due("64 bits", x.write(2, 1, 0), Long.MIN_VALUE);
    }

    private static void copy() {
        GlacierStreets x = new GlacierStreets();
        c.due("no such sheet", x.copy(4, 0, 0, 0, 0), Checker.BEYOND);
        c.due("no such sheet", x.copy(0, 0, -1, 0, 0), Checker.BEYOND);
        c.due("missing", x.copy(0, 0, 1, 0, -1), Checker.MISSING);
        x.sheet(0, 16, 5);
        c.due("one is missing", x.copy(0, 0, 1, 0, -1), Checker.MISSING);
        c.due("the other is", x.copy(1, 0, 0, 0, -1), Checker.MISSING);
        x.sheet(1, 16, 3);
        x.sheet(2, 8, 5);
        c.due("kind", x.copy(0, 0, 2, 0, -1), Checker.KIND);
        for (int i = 0; i < 5; i++) {
            x.write(0, i, 10 + i);
        }
        int[][] wrong = {
            {-1, 0, 1}, {0, -1, 1}, {0, 0, -1}, {0, 0, 4}, {3, 0, 3}, {0, 1, 3}, {6, 0, 0}, {0, 4, 0},
            {Integer.MAX_VALUE, 0, 1}, {0, Integer.MAX_VALUE, 1}, {0, 0, Integer.MAX_VALUE},
            {Integer.MAX_VALUE, 0, Integer.MAX_VALUE}, {1, 1, Integer.MAX_VALUE},
        };
        for (int[] w : wrong) {
            c.due("copy(0, " + w[0] + ", 1, " + w[1] + ", " + w[2] + ")",
                x.copy(0, w[0], 1, w[1], w[2]), Checker.BEYOND);
        }
        c.due("none at the ends", x.copy(0, 5, 1, 3, 0), 0);
        c.due("copy(0, 2, 1, 0, 3)", x.copy(0, 2, 1, 0, 3), 3);
        row(x, 1, 12, 13, 14);
        c.due("upward within one", x.copy(0, 0, 0, 1, 4), 4);
        row(x, 0, 10, 10, 11, 12, 13);
        c.due("downward within one", x.copy(0, 2, 0, 0, 3), 3);
        row(x, 0, 11, 12, 13, 12, 13);
    }

    private static void row(GlacierStreets x, int s, long... due) {
        for (int i = 0; i < due.length; i++) {
            c.due("number " + i + " of sheet " + s, x.write(s, i, due[i]), due[i]);
        }
    }

    private static void lays() {
        GlacierStreets x = new GlacierStreets();
        c.due("no such sheet", x.lays(4), Checker.BEYOND);
        c.due("no such sheet", x.lays(-1), Checker.BEYOND);
        c.due("missing", x.lays(0), Checker.MISSING);
        x.sheet(0, 64, 11);
        long[] numbers = {60, 61, -1, 0, 1L << 32, Long.MIN_VALUE, 7, 8, 9, 10, 11};
        for (int i = 0; i < 11; i++) {
            x.write(0, i, numbers[i]);
        }
        c.due("lays(0)", x.lays(0), 5);
        int[] paces = {60, 6, 10, 0, 18, 14, 7, 8, 9};
        for (int lane = 0; lane < 9; lane++) {
            c.due("goes(" + lane + ", 0)", x.goes(lane, 0), paces[lane]);
        }
    }

    private static void map() {
        GlacierStreets x = new GlacierStreets();
        c.due("no such sheet", x.map(4, -1), Checker.BEYOND);
        c.due("missing", x.map(0, -1), Checker.MISSING);
        x.sheet(0, 8, 3);
        c.due("n", x.map(0, -1), Checker.BEYOND);
        c.due("n", x.map(0, 201), Checker.BEYOND);
        c.due("no houses", x.map(0, 200), 0);
        x.house(0, 4, 100);
        x.house(0, 4, 1999);
        x.write(0, 2, 9);
        c.due("map(0, 2)", x.map(0, 2), 2);
        row(x, 0, (byte) 136, (byte) 2000, 9);
        c.due("nothing changes", x.of(0, 2), 100);
        x.sheet(1, 16, 1);
        c.due("as far as it has numbers", x.map(1, 0), 1);
        row(x, 1, 100);
        Checker.pass(x, 900);
        c.due("map in 900", x.map(0, 100), Checker.STATE);
        c.due("map in 900", x.map(0, 201), Checker.BEYOND);
        c.due("map in 900", x.map(0, 99), 2);
    }

    private static void read() {
        GlacierStreets x = new GlacierStreets();
        c.due("no such sheet", x.read(4, -1), Checker.BEYOND);
        c.due("missing", x.read(0, -1), Checker.MISSING);
        x.sheet(0, 16, 2);
        c.due("n", x.read(0, -1), Checker.BEYOND);
        c.due("n", x.read(0, 201), Checker.BEYOND);
        c.due("no houses", x.read(0, 0), 1);
        x.house(0, 4, 100);
        x.house(0, 3, 300);
        c.due("the first isn't", x.read(0, 0), 1);
        x.map(0, 5);
        c.due("all are", x.read(0, 5), 0);
        c.due("not in 4", x.read(0, 4), 1);
        x.write(0, 1, 0);
        c.due("the second isn't", x.read(0, 5), 2);
        x.write(0, 1, 370);
        x.house(0, 3, 0);
        c.due("one more must come", x.read(0, 5), 3);
        x.sheet(1, 8, 4);
        c.due("map", x.map(1, 0), 3);
        c.due("feet whole, 300 isn't 44", x.read(1, 0), 2);
        x.sheet(2, 64, 4);
        x.map(2, 0);
        c.due("one too many", x.read(2, 0), 4);
        Checker.pass(x, 900);
        c.due("read in 900", x.read(0, 100), Checker.STATE);
        x.sheet(2, 64, 3);
        x.map(2, 99);
        c.due("read in 900", x.read(2, 99), 0);
    }
}
