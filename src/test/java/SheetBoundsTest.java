/** The bounds of promises 35 to 40: sheet, write, copy, lays, map, read. */
public final class SheetBoundsTest {
    private static final Bounds b = new Bounds("SheetBoundsTest");

    public static void main(String[] args) {
        sheet();
        sheetSizes();
        write();
        writeBits();
        copy();
        copyRows();
        copyAsTheyWere();
        lays();
        map();
        mapRows();
        read();
        readRows();
        b.end();
    }

    /** Sheet 0 of so many bits with these numbers. */
    private static Bounds.Town row(int bits, long... numbers) {
        return x -> {
            x.sheet(0, bits, numbers.length);
            for (int i = 0; i < numbers.length; i++) {
                x.write(0, i, numbers[i]);
            }
        };
    }

    private static void sheet() {
        b.act(35, "sheet");
        b.within("sheet(s, 8, 1)", Towns::rich, (x, v) -> x.sheet(v, 8, 1), 0, 1, 3, 1);
        b.within("sheet(s, 0, 1)", Towns::rich, (x, v) -> x.sheet(v, 0, 1), 0, 0, 3, 0);
        for (int bits : new int[] {8, 16, 64}) {
            b.takes("sheet(0, " + bits + ", 5)", Towns::rich, x -> x.sheet(0, bits, 5), 5);
        }
        b.takes("sheet(0, 0, 5)", Towns::rich, x -> x.sheet(0, 0, 5), 0);
        b.beyond("sheet(0, bits, 5)", Towns::rich, (x, v) -> x.sheet(0, v, 5), -1, 1, 7, 9, 15, 17, 32, 63, 65, -8, 24,
            Integer.MIN_VALUE, Integer.MAX_VALUE);
        b.beyond("ahead of SIZE, no such sheet", Towns::rich, (x, v) -> x.sheet(v, 8, -1), -1, 4);
        b.beyond("ahead of SIZE, other bits", Towns::rich, (x, v) -> x.sheet(0, v, -1), -1, 1, 32);
        b.beyond("no such sheet, other bits", Towns::rich, (x, v) -> x.sheet(v, 32, 41), -1, 4);
    }

    private static void sheetSizes() {
        for (int bits : new int[] {0, 8, 16, 64}) {
            String what = "sheet(0, " + bits + ", n)";
            b.takes(what + " at 0", Towns::rich, x -> x.sheet(0, bits, 0), 0);
            b.takes(what + " at 1", Towns::rich, x -> x.sheet(0, bits, 1), bits == 0 ? 0 : 1);
            b.takes(what + " at 40", Towns::rich, x -> x.sheet(0, bits, 40), bits == 0 ? 0 : 40);
            b.refuses(what + " at -1", Towns::rich, x -> x.sheet(0, bits, -1), Checker.SIZE);
            b.refuses(what + " far below", Towns::rich, x -> x.sheet(0, bits, Integer.MIN_VALUE), Checker.SIZE);
            b.beyond(what, Towns::rich, (x, v) -> x.sheet(0, bits, v), 41, Integer.MAX_VALUE);
        }
        for (int i = 0; i < 3; i++) {
            int k = i;
            b.then("number " + i + " is 0", Towns::rich, x -> x.sheet(1, 16, 5), x -> x.write(1, k, 9), 0);
            b.then("number " + i + " is 0, other bits", Towns::rich, x -> x.sheet(1, 8, 3), x -> x.write(1, k, 9), 0);
        }
        b.then("what was is 0 when it grows again", Towns::rich, x -> {
            x.sheet(1, 16, 1);
            x.sheet(1, 16, 5);
        }, x -> x.write(1, 2, 9), 0);
        b.then("another sheet stays", Towns::rich, x -> x.sheet(1, 16, 5), x -> x.write(0, 2, 9), -98);
        Bounds.Town empty = Towns.with(Towns::rich, x -> x.sheet(0, 8, 0));
        b.refuses("an empty one has no number", empty, x -> x.write(0, 0, 1), Checker.BEYOND);
        Bounds.Town missing = Towns.with(Towns::rich, x -> x.sheet(0, 0, 3));
        b.refuses("it is MISSING", missing, x -> x.write(0, 0, 1), Checker.MISSING);
        b.takes("it comes back", missing, x -> x.sheet(0, 64, 40), 40);
    }

    private static void write() {
        b.act(36, "write");
        b.within("write(0, i, 7)", Towns::rich, (x, v) -> x.write(0, v, 7), 0, -100, 2, -98);
        b.within("write(1, i, 7)", Towns::rich, (x, v) -> x.write(1, v, 7), 0, 1000, 4, 0);
        b.within("write(2, i, 7)", Towns::rich, (x, v) -> x.write(2, v, 7), 0, 1L << 40, 2, (1L << 40) + 2);
        b.within("write(0, i, 7) of 40", x -> x.sheet(0, 64, 40), (x, v) -> x.write(0, v, 7), 0, 0, 39, 0);
        b.within("write(0, i, 7) of one", x -> x.sheet(0, 8, 1), (x, v) -> x.write(0, v, 7), 0, 0, 0, 0);
        b.beyond("write(0, i, 7) of none", x -> x.sheet(0, 8, 0), (x, v) -> x.write(0, v, 7), -1, 0, 1);
        b.beyond("no such sheet", Towns::rich, (x, v) -> x.write(v, 0, 7), -1, 4, Integer.MIN_VALUE, Integer.MAX_VALUE);
        b.refuses("MISSING", Towns::rich, x -> x.write(3, 0, 7), Checker.MISSING);
        b.refuses("MISSING ahead of no such number", Towns::rich, x -> x.write(3, -1, 7), Checker.MISSING);
        b.refuses("MISSING ahead of no such number", Towns::rich, x -> x.write(3, 40, 7), Checker.MISSING);
        b.then("the others stay", Towns::rich, x -> x.write(1, 1, 7), x -> x.write(1, 0, 7) + x.write(1, 2, 7), 2002);
    }

    private static void writeBits() {
        long[][] of8 = {{127, 127}, {128, -128}, {-128, -128}, {-129, 127}, {255, -1}, {256, 0}, {-1, -1},
            {Long.MIN_VALUE, 0}, {Long.MAX_VALUE, -1}};
        long[][] of16 = {{32767, 32767}, {32768, -32768}, {-32768, -32768}, {-32769, 32767}, {65535, -1}, {65536, 0},
            {-1, -1}, {Long.MIN_VALUE, 0}, {Long.MAX_VALUE, -1}};
        long[][] of64 = {{1L << 31, 1L << 31}, {-1L << 31, -1L << 31}, {1L << 32, 1L << 32}, {-1, -1},
            {Long.MIN_VALUE, Long.MIN_VALUE}, {Long.MAX_VALUE, Long.MAX_VALUE}};
        bits(8, of8);
        bits(16, of16);
        bits(64, of64);
        for (long finding = Checker.BEYOND; finding >= Checker.SIZE; finding--) {
            b.takes("a number like a finding", row(64, finding), x -> x.write(0, 0, 0), finding);
        }
    }

    private static void bits(int bits, long[][] due) {
        for (long[] d : due) {
            b.takes(bits + " bits of " + d[0], row(bits, d[0]), x -> x.write(0, 0, 0), d[1]);
        }
    }

    private static void copy() {
        b.act(37, "copy");
        Bounds.Town all = x -> {
            for (int s = 0; s <= 3; s++) {
                x.sheet(s, 16, 4);
            }
        };
        b.within("copy(s, 0, 1, 0, 4)", all, (x, v) -> x.copy(v, 0, 1, 0, 4), 0, 4, 3, 4);
        b.within("copy(1, 0, t, 0, 4)", all, (x, v) -> x.copy(1, 0, v, 0, 4), 0, 4, 3, 4);
        b.beyond("ahead of MISSING, s", Towns::rich, (x, v) -> x.copy(v, 0, 3, 0, 1), -1, 4);
        b.beyond("ahead of MISSING, t", Towns::rich, (x, v) -> x.copy(3, 0, v, 0, 1), -1, 4);
        b.refuses("s is MISSING", Towns::rich, x -> x.copy(3, 0, 0, 0, 1), Checker.MISSING);
        b.refuses("t is MISSING", Towns::rich, x -> x.copy(0, 0, 3, 0, 1), Checker.MISSING);
        b.refuses("both are MISSING", Towns::rich, x -> x.copy(3, 0, 3, 0, 0), Checker.MISSING);
        b.refuses("MISSING ahead of n", Towns::rich, x -> x.copy(0, -1, 3, -1, -1), Checker.MISSING);
        int[][] kinds = {{0, 1}, {1, 0}, {0, 2}, {2, 0}, {1, 2}, {2, 1}};
        for (int[] k : kinds) {
            String what = "other bits, copy(" + k[0] + ", .., " + k[1] + ", ..)";
            b.refuses(what, Towns::rich, x -> x.copy(k[0], 0, k[1], 0, 1), Checker.KIND);
            b.refuses(what + " of none", Towns::rich, x -> x.copy(k[0], 0, k[1], 0, 0), Checker.KIND);
            b.refuses(what + ", ahead of n", Towns::rich, x -> x.copy(k[0], -1, k[1], 99, -1), Checker.KIND);
        }
    }

    /** Sheet 0 has five numbers, 10 to 14, and sheet 1 three, 20 to 22. */
    private static void fiveAndThree(GlacierStreets x) {
        x.sheet(0, 16, 5);
        x.sheet(1, 16, 3);
        for (int i = 0; i < 5; i++) {
            x.write(0, i, 10 + i);
        }
        for (int i = 0; i < 3; i++) {
            x.write(1, i, 20 + i);
        }
    }

    private static void copyRows() {
        Bounds.Town town = SheetBoundsTest::fiveAndThree;
        b.within("copy(0, 0, 1, 0, n)", town, (x, v) -> x.copy(0, 0, 1, 0, v), 0, 0, 3, 3);
        b.within("copy(1, 0, 0, 0, n)", town, (x, v) -> x.copy(1, 0, 0, 0, v), 0, 0, 3, 3);
        b.within("copy(0, from, 1, 0, 2)", town, (x, v) -> x.copy(0, v, 1, 0, 2), 0, 2, 3, 2);
        b.within("copy(0, 0, 1, to, 2)", town, (x, v) -> x.copy(0, 0, 1, v, 2), 0, 2, 1, 2);
        b.within("copy(0, from, 1, 0, 0)", town, (x, v) -> x.copy(0, v, 1, 0, 0), 0, 0, 5, 0);
        b.within("copy(0, 0, 1, to, 0)", town, (x, v) -> x.copy(0, 0, 1, v, 0), 0, 0, 3, 0);
        b.beyond("from and n at once", town, (x, v) -> x.copy(0, v, 1, 0, v), -1, Integer.MIN_VALUE, Integer.MAX_VALUE);
        b.beyond("to and n at once", town, (x, v) -> x.copy(0, 0, 1, v, v), -1, Integer.MIN_VALUE, Integer.MAX_VALUE);
        b.beyond("n, from 1 on", town, (x, v) -> x.copy(0, 1, 0, 0, v), 5, Integer.MAX_VALUE, Integer.MAX_VALUE - 1);
        b.then("the first comes", town, x -> x.copy(0, 2, 1, 1, 2), x -> x.write(1, 1, 0), 12);
        b.then("the last comes", town, x -> x.copy(0, 2, 1, 1, 2), x -> x.write(1, 2, 0), 13);
        b.then("what is ahead stays", town, x -> x.copy(0, 2, 1, 1, 2), x -> x.write(1, 0, 0), 20);
        b.then("what is behind stays", town, x -> x.copy(1, 0, 0, 0, 3), x -> x.write(0, 3, 0), 13);
        b.then("where they come from they stay", town, x -> x.copy(0, 2, 1, 1, 2), x -> x.write(0, 2, 0), 12);
        Bounds.Town empty = x -> {
            x.sheet(0, 8, 0);
            x.sheet(1, 8, 0);
        };
        b.within("empty ones", empty, (x, v) -> x.copy(0, 0, 1, 0, v), 0, 0, 0, 0);
        Bounds.Town long40 = x -> {
            x.sheet(0, 64, 40);
            x.sheet(1, 64, 40);
        };
        b.within("all forty", long40, (x, v) -> x.copy(0, 0, 1, 0, v), 0, 0, 40, 40);
    }

    private static void copyAsTheyWere() {
        Bounds.Town town = SheetBoundsTest::fiveAndThree;
        int[] up = {10, 10, 11, 12, 13};
        int[] down = {11, 12, 13, 14, 14};
        for (int i = 0; i < 5; i++) {
            int k = i;
            b.then("one up, number " + i, town, x -> x.copy(0, 0, 0, 1, 4), x -> x.write(0, k, 0), up[i]);
            b.then("one down, number " + i, town, x -> x.copy(0, 1, 0, 0, 4), x -> x.write(0, k, 0), down[i]);
            b.then("to where it is, number " + i, town, x -> x.copy(0, 0, 0, 0, 5), x -> x.write(0, k, 0), 10 + i);
        }
    }

    private static void lays() {
        b.act(38, "lays");
        b.beyond("lays(s)", Towns::rich, (x, v) -> x.lays(v), -1, 4, Integer.MIN_VALUE, Integer.MAX_VALUE);
        b.refuses("MISSING", Towns::rich, x -> x.lays(3), Checker.MISSING);
        b.takes("an empty one", row(8), x -> x.lays(0), 0);
        b.takes("rich, none is 0 to 60", Towns::rich, x -> x.lays(0), 0);
        b.takes("rich, the last two are", Towns::rich, x -> x.lays(1), 2);
        long[][] paces = {{-1, 0}, {0, 1}, {1, 1}, {59, 1}, {60, 1}, {61, 0}, {127, 0}, {-128, 0}};
        for (long[] p : paces) {
            b.takes("one number, " + p[0], row(8, p[0]), x -> x.lays(0), p[1]);
            b.then("one number, " + p[0], row(8, p[0]), x -> x.lays(0), x -> x.goes(0, 0), p[1] == 1 ? p[0] : 2);
        }
        for (long p : new long[] {1L << 32, -1L << 32, (1L << 32) + 5, Long.MIN_VALUE, Long.MAX_VALUE}) {
            b.takes("64 bits, " + p, row(64, p), x -> x.lays(0), 0);
        }
        b.takes("sheet 3", x -> x.sheet(3, 16, 1), x -> x.lays(3), 1);
        b.takes("eight numbers", row(16, 1, 2, 3, 4, 5, 6, 7, 8), x -> x.lays(0), 8);
        b.takes("nine numbers", row(16, 1, 2, 3, 4, 5, 6, 7, 8, 9), x -> x.lays(0), 9);
        b.takes("ten numbers", row(16, 1, 2, 3, 4, 5, 6, 7, 8, 9, 10), x -> x.lays(0), 9);
        b.takes("forty numbers", x -> x.sheet(0, 8, 40), x -> x.lays(0), 9);
        Bounds.Town gap = row(16, 1, 61, 3, -1, 5, 6, 7, 8, 9, 10);
        b.takes("some left out", gap, x -> x.lays(0), 7);
        int[] due = {1, 6, 3, 14, 5, 6, 7, 8, 9};
        for (int lane = 0; lane <= 8; lane++) {
            int l = lane;
            b.then("lane " + l, gap, x -> x.lays(0), x -> x.goes(l, 0), due[l]);
        }
        b.then("lanes without a number stay", row(16, 1, 2), x -> x.lays(0), x -> x.goes(2, 0), 10);
        b.then("the sheet stays", gap, x -> x.lays(0), x -> x.write(0, 9, 0), 10);
    }

    private static void map() {
        b.act(39, "map");
        b.beyond("ahead of MISSING, map(s, 0)", Towns::rich, (x, v) -> x.map(v, 0), -1, 4, Integer.MIN_VALUE,
            Integer.MAX_VALUE);
        b.refuses("MISSING", Towns::rich, x -> x.map(3, 0), Checker.MISSING);
        b.refuses("MISSING ahead of n", Towns::rich, x -> x.map(3, -1), Checker.MISSING);
        b.refuses("MISSING ahead of STATE", Towns.still(999), x -> x.map(1, 1), Checker.MISSING);
        b.within("map(1, n)", Towns::rich, (x, v) -> x.map(1, v), 0, 5, 200, 5);
        b.takes("to 999 from 799", Towns.still(799), x -> x.map(0, 200), 3);
        b.refuses("to 1000 from 800", Towns.still(800), x -> x.map(0, 200), Checker.STATE);
        b.takes("to 999 from 800", Towns.still(800), x -> x.map(0, 199), 3);
        b.takes("0 from 999", Towns.still(999), x -> x.map(0, 0), 3);
        b.refuses("to 1000 from 999", Towns.still(999), x -> x.map(0, 1), Checker.STATE);
        b.beyond("ahead of STATE, n", Towns.still(999), (x, v) -> x.map(0, v), -1, 201);
        b.beyond("ahead of STATE, s", Towns.still(999), (x, v) -> x.map(v, 1), -1, 4);
    }

    private static void mapRows() {
        b.takes("no HOUSES", row(8, 7), x -> x.map(0, 200), 0);
        b.then("no HOUSES", row(8, 7), x -> x.map(0, 200), x -> x.write(0, 0, 0), 7);
        b.takes("no numbers", Towns.with(Towns.houses(3), row(8)), x -> x.map(0, 0), 0);
        for (int many = 11; many <= 13; many++) {
            int n = many;
            Bounds.Town twelve = Towns.with(Towns.houses(12), x -> x.sheet(0, 16, n));
            b.takes(many + " numbers for twelve", twelve, x -> x.map(0, 0), Math.min(n, 12));
            b.then("the last number of " + many, twelve, x -> x.map(0, 0), x -> x.write(0, n - 1, 0),
                n == 13 ? 0 : 10 * (n - 1));
        }
        Bounds.Town behind = Towns.with(Towns.one(4, 100), row(16, 1, 2));
        b.then("what is behind stays", behind, x -> x.map(0, 0), x -> x.write(0, 1, 0), 2);
        int[][] of8 = {{127, 127}, {128, -128}, {255, -1}, {256, 0}, {1999, (byte) 1999}};
        for (int[] f : of8) {
            Bounds.Town town = Towns.with(Towns.one(4, f[0]), row(8, 0));
            b.then("8 bits of " + f[0], town, x -> x.map(0, 0), x -> x.write(0, 0, 0), f[1]);
        }
        Bounds.Town edge = Towns.with(Towns.one(4, 1981), row(64, 0));
        b.then("a FOOT ahead of EDGE", edge, x -> x.map(0, 1), x -> x.write(0, 0, 0), 1999);
        b.then("GONE by then", edge, x -> x.map(0, 2), x -> x.write(0, 0, 0), 2000);
        b.then("the HOUSE stays", edge, x -> x.map(0, 2), x -> x.of(0, 2), 1981);
        b.then("GONE now", Towns.still(1), x -> x.map(0, 200), x -> x.write(0, 2, 0), 2000);
        Bounds.Town spring = Towns.with(Towns.inSpring(Towns.one(4, 0)), row(16, 0));
        b.then("18, then 27", spring, x -> x.map(0, 2), x -> x.write(0, 0, 0), 45);
    }

    private static void read() {
        b.question(40, "read");
        b.beyond("ahead of MISSING, read(s, 0)", Towns::rich, (x, v) -> x.read(v, 0), -1, 4, Integer.MIN_VALUE,
            Integer.MAX_VALUE);
        b.refuses("MISSING", Towns::rich, x -> x.read(3, 0), Checker.MISSING);
        b.refuses("MISSING ahead of n", Towns::rich, x -> x.read(3, 201), Checker.MISSING);
        b.refuses("MISSING ahead of STATE", Towns.still(999), x -> x.read(1, 1), Checker.MISSING);
        b.within("read(1, n)", Towns::rich, (x, v) -> x.read(1, v), 0, 1, 200, 1);
        Bounds.Town mapped = Towns.with(Towns.still(799), x -> x.map(0, 200));
        b.takes("to 999 from 799", mapped, x -> x.read(0, 200), 0);
        b.refuses("to 1000 from 800", Towns.still(800), x -> x.read(0, 200), Checker.STATE);
        b.takes("to 999 from 800", Towns.still(800), x -> x.read(0, 199), 1);
        b.takes("0 from 999", Towns.with(Towns.still(999), x -> x.map(0, 0)), x -> x.read(0, 0), 0);
        b.refuses("to 1000 from 999", Towns.still(999), x -> x.read(0, 1), Checker.STATE);
        b.beyond("ahead of STATE, n", Towns.still(999), (x, v) -> x.read(0, v), -1, 201);
        b.beyond("ahead of STATE, s", Towns.still(999), (x, v) -> x.read(v, 1), -1, 4);
    }

    private static void readRows() {
        b.takes("no HOUSES, no numbers", row(8), x -> x.read(0, 0), 0);
        b.takes("no HOUSES, a number", row(8, 0), x -> x.read(0, 0), 1);
        b.takes("three HOUSES, no numbers", Towns.with(Towns.houses(3), row(8)), x -> x.read(0, 0), 1);
        b.takes("all three", Towns.with(Towns.houses(3), row(8, 0, 10, 20)), x -> x.read(0, 0), 0);
        b.takes("one more must come", Towns.with(Towns.houses(3), row(8, 0, 10)), x -> x.read(0, 0), 3);
        b.takes("two more must come", Towns.with(Towns.houses(3), row(8, 0)), x -> x.read(0, 0), 2);
        b.takes("one too many", Towns.with(Towns.houses(3), row(8, 0, 10, 20, 30)), x -> x.read(0, 0), 4);
        b.takes("the first isn't", Towns.with(Towns.houses(3), row(8, 1, 10, 20)), x -> x.read(0, 0), 1);
        b.takes("the second isn't", Towns.with(Towns.houses(3), row(8, 0, 11, 20)), x -> x.read(0, 0), 2);
        b.takes("the last isn't", Towns.with(Towns.houses(3), row(8, 0, 10, 21)), x -> x.read(0, 0), 3);
        b.takes("of two the first", Towns.with(Towns.houses(3), row(8, 0, 11, 21)), x -> x.read(0, 0), 2);
        b.takes("one isn't, and more must come", Towns.with(Towns.houses(3), row(8, 1, 10)), x -> x.read(0, 0), 1);
        b.takes("127 in 8 bits", Towns.with(Towns.one(4, 127), row(8, 127)), x -> x.read(0, 0), 0);
        b.takes("128 isn't -128", Towns.with(Towns.one(4, 128), row(8, 128)), x -> x.read(0, 0), 1);
        b.takes("256 isn't 0", Towns.with(Towns.one(4, 256), row(8, 0)), x -> x.read(0, 0), 1);
        b.takes("more than 32 bits", Towns.with(Towns.one(4, 5), row(64, (1L << 32) + 5)), x -> x.read(0, 0), 1);
        Bounds.Town edge = Towns.with(Towns.one(4, 1981), row(64, 1999));
        b.takes("a FOOT ahead of EDGE", edge, x -> x.read(0, 1), 0);
        b.takes("GONE by then", Towns.with(Towns.one(4, 1981), row(64, 2000)), x -> x.read(0, 2), 0);
        b.takes("not by then", Towns.with(Towns.one(4, 1981), row(64, 2000)), x -> x.read(0, 1), 1);
        for (int many = 11; many <= 13; many++) {
            int n = many;
            Bounds.Town twelve = Towns.with(Towns.houses(12), x -> {
                x.sheet(0, 16, n);
                x.map(0, 0);
            });
            b.takes(many + " numbers for twelve", twelve, x -> x.read(0, 0), new int[] {12, 0, 13}[n - 11]);
        }
    }
}
