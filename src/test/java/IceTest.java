/** Promises 1 to 7: a new object, edge, pace, warm, goes, strain, crack. */
public final class IceTest {
    private static final Checker c = new Checker("IceTest");

    public static void main(String[] args) {
        newObject();
        edge();
        pace();
        warm();
        goes();
        strain();
        crack();
        c.end();
    }

    private static void newObject() {
        GlacierStreets x = new GlacierStreets();
        for (int what = 0; what <= 3; what++) {
            c.due("count(" + what + ")", x.count(what), 0);
        }
        c.due("undo()", x.undo(), Checker.NONE);
        c.due("tear()", x.tear(), 0);
        c.due("wipe()", x.wipe(), 0);
        c.due("now(0)", x.now(0), 0);
        c.due("now(1)", x.now(1), 2000);
        c.due("now(2)", x.now(2), 0);
        c.due("now(3)", x.now(3), 0);
        int[] paces = {2, 6, 10, 14, 18, 14, 10, 6, 2};
        for (int lane = 0; lane < 9; lane++) {
            c.due("pace(" + lane + ", 0)", x.pace(lane, 0), paces[lane]);
        }
        for (int s = 0; s < 4; s++) {
            c.due("lays(" + s + ")", x.lays(s), Checker.MISSING);
        }
    }

    private static void edge() {
        GlacierStreets x = new GlacierStreets();
        c.due("edge(99)", x.edge(99), Checker.BEYOND);
        c.due("edge(10000)", x.edge(10000), Checker.BEYOND);
        c.due("edge(100)", x.edge(100), 2000);
        c.due("edge(9999)", x.edge(9999), 100);
        c.due("edge(9999) again", x.edge(9999), 9999);
        x.house(0, 4, 500);
        c.due("edge at a house", x.edge(500), Checker.STATE);
        c.due("edge ahead of a house", x.edge(499), Checker.STATE);
        c.due("edge out of range with a house", x.edge(99), Checker.BEYOND);
        c.due("edge past a house", x.edge(501), 9999);
        x.years(1);
        c.due("the house is gone", x.of(0, 4), 1);
        c.due("a gone one hinders no edge", x.edge(100), 501);
        c.due("its feet stay", x.of(0, 2), 501);
    }

    private static void pace() {
        GlacierStreets x = new GlacierStreets();
        c.due("pace(-1, 0)", x.pace(-1, 0), Checker.BEYOND);
        c.due("pace(9, 0)", x.pace(9, 0), Checker.BEYOND);
        c.due("pace(0, -1)", x.pace(0, -1), Checker.BEYOND);
        c.due("pace(0, 61)", x.pace(0, 61), Checker.BEYOND);
        c.due("pace(0, 60)", x.pace(0, 60), 2);
        c.due("pace(8, 0)", x.pace(8, 0), 2);
        c.due("pace(0, 0)", x.pace(0, 0), 60);
        c.due("goes(8, 0)", x.goes(8, 0), 0);
    }

    private static void warm() {
        GlacierStreets x = new GlacierStreets();
        c.due("warm(-1)", x.warm(-1), Checker.BEYOND);
        c.due("warm(128)", x.warm(128), Checker.BEYOND);
        c.due("warm(127)", x.warm(127), 0);
        c.due("warm(0)", x.warm(0), 127);
        c.due("now(2)", x.now(2), 0);
    }

    private static void goes() {
        GlacierStreets x = new GlacierStreets();
        x.warm(1 << 6);
        x.pace(3, 7);
        c.due("goes(3, 5)", x.goes(3, 5), 7);
        c.due("goes(3, 6), half is cut", x.goes(3, 6), 10);
        c.due("goes(3, 7)", x.goes(3, 7), 7);
        c.due("goes(3, 13)", x.goes(3, 13), 10);
        c.due("goes(3, 999)", x.goes(3, 999), 7);
        x.warm(1 << 5);
        c.due("goes(3, 999), 999 rests 5", x.goes(3, 999), 10);
        c.due("goes(-1, 0)", x.goes(-1, 0), Checker.BEYOND);
        c.due("goes(9, 0)", x.goes(9, 0), Checker.BEYOND);
        c.due("goes(0, -1)", x.goes(0, -1), Checker.BEYOND);
        c.due("goes(0, 1000)", x.goes(0, 1000), Checker.BEYOND);
    }

    private static void strain() {
        GlacierStreets x = new GlacierStreets();
        c.due("strain(3, 0), the next is faster", x.strain(3, 0), 4);
        c.due("strain(4, 0), the next is slower", x.strain(4, 0), 4);
        c.due("strain(7, 999)", x.strain(7, 999), 4);
        x.warm(1);
        c.due("strain(0, 0), 3 and 9", x.strain(0, 0), 6);
        c.due("strain(0, 1)", x.strain(0, 1), 4);
        c.due("strain(8, 0)", x.strain(8, 0), Checker.BEYOND);
        c.due("strain(-1, 0)", x.strain(-1, 0), Checker.BEYOND);
        c.due("strain(0, 1000)", x.strain(0, 1000), Checker.BEYOND);
        c.due("strain(0, -1)", x.strain(0, -1), Checker.BEYOND);
    }

    private static void crack() {
        GlacierStreets x = new GlacierStreets();
        c.due("crack(7)", x.crack(7), 24);
        x.pace(0, 0);
        x.pace(1, 1);
        c.due("crack(0) at a foot a year", x.crack(0), 99);
        x.pace(1, 0);
        c.due("crack(0) without strain", x.crack(0), Checker.NONE);
        x.pace(0, 60);
        c.due("crack(0) at 60", x.crack(0), 1);
        x.warm(127);
        c.due("crack(0) at 90", x.crack(0), 1);
        x.pace(1, 20);
        x.warm(0);
        c.due("crack(0) at 40", x.crack(0), 2);
        x.pace(1, 10);
        c.due("crack(0) at 50, 100 just then", x.crack(0), 1);
        c.due("crack(8)", x.crack(8), Checker.BEYOND);
        c.due("crack(-1)", x.crack(-1), Checker.BEYOND);
    }
}
