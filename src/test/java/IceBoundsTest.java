/** The bounds of promises 1 to 7: a new object, edge, pace, warm, goes, strain, crack. */
public final class IceBoundsTest {
    private static final Bounds b = new Bounds("IceBoundsTest");

    public static void main(String[] args) {
        newObject();
        edge();
        edgeAndHouses();
        pace();
        warm();
        goes();
        goesInSeasons();
        strain();
        crack();
        crackJustThen();
        b.end();
    }

    private static void newObject() {
        b.question(1, "a new object");
        for (int what = 0; what <= 3; what++) {
            int w = what;
            b.takes("count(" + w + ")", Towns::none, x -> x.count(w), 0);
        }
        b.takes("YEAR is 0", Towns::none, x -> x.now(0), 0);
        b.takes("EDGE is 2000", Towns::none, x -> x.now(1), 2000);
        b.takes("WARM is none", Towns::none, x -> x.now(2), 0);
        b.takes("no HOUSES stand", Towns::none, x -> x.now(3), 0);
        int[] paces = {2, 6, 10, 14, 18, 14, 10, 6, 2};
        for (int lane = 0; lane <= 8; lane++) {
            int l = lane;
            b.takes("PACE of lane " + l, Towns::none, x -> x.goes(l, 0), paces[l]);
            b.takes("no STAKES in lane " + l, Towns::none, x -> x.learnt(l, 2), 61);
        }
        b.refuses("no HOUSE 0", Towns::none, x -> x.of(0, 0), Checker.BEYOND);
        b.refuses("no DEED 0", Towns::none, x -> x.deedOf(0, 0), Checker.BEYOND);
        b.refuses("no image is kept", Towns::none, x -> x.undo(), Checker.NONE);
        b.takes("nothing to tear", Towns::none, x -> x.tear(), 0);
        b.takes("THE TAPE is empty", Towns::none, x -> x.wipe(), 0);
        for (int sheet = 0; sheet <= 3; sheet++) {
            int s = sheet;
            b.refuses("sheet " + s + " is MISSING", Towns::none, x -> x.write(s, 0, 0), Checker.MISSING);
        }
        for (int which = -1; which <= 6; which++) {
            int w = which;
            b.takes("status(" + w + ")", Towns::none, x -> x.status(w), 0);
        }
    }

    private static void edge() {
        b.act(2, "edge");
        b.within("edge(v)", Towns::none, (x, v) -> x.edge(v), 100, 2000, 9999, 2000);
        b.then("EDGE is 100 then", Towns::none, x -> x.edge(100), x -> x.now(1), 100);
        b.then("EDGE is 9999 then", Towns::none, x -> x.edge(9999), x -> x.now(1), 9999);
        b.then("what it was", Towns::none, x -> x.edge(100), x -> x.edge(9999), 100);
        b.takes("the same again", Towns::none, x -> x.edge(2000), 2000);
        // each of these is STATE too, as houses are farther
        b.beyond("ahead of STATE, edge(v)", Towns::rich, (x, v) -> x.edge(v), 99, 0, -1, Integer.MIN_VALUE);
        b.beyond("edge(v)", Towns::rich, (x, v) -> x.edge(v), 10000, Integer.MAX_VALUE);
    }

    private static void edgeAndHouses() {
        b.refuses("at a HOUSE", Towns.one(4, 150), x -> x.edge(150), Checker.STATE);
        b.refuses("a HOUSE is farther", Towns.one(4, 150), x -> x.edge(149), Checker.STATE);
        b.takes("a HOUSE is just ahead", Towns.one(4, 150), x -> x.edge(151), 2000);
        b.refuses("a HOUSE at the least EDGE", Towns.one(4, 100), x -> x.edge(100), Checker.STATE);
        b.takes("a HOUSE just ahead of the least EDGE", Towns.one(4, 99), x -> x.edge(100), 2000);
        Bounds.Town far = x -> {
            x.edge(9999);
            x.house(0, 0, 9998);
        };
        b.refuses("at a HOUSE at 9998", far, x -> x.edge(9998), Checker.STATE);
        b.takes("a HOUSE just ahead of 9999", far, x -> x.edge(9999), 9999);
        Bounds.Town three = x -> {
            x.house(0, 4, 200);
            x.house(0, 0, 300);
            x.house(5, 8, 250);
        };
        b.refuses("at the farthest of three", three, x -> x.edge(300), Checker.STATE);
        b.takes("past the farthest of three", three, x -> x.edge(301), 2000);
        b.refuses("at a HOUSE in rich", Towns::rich, x -> x.edge(600 + 3 * 9), Checker.STATE);
        b.takes("past all in rich but the GONE one", Towns::rich, x -> x.edge(600 + 3 * 9 + 1), 2000);
        b.then("FEET of a GONE one stay", Towns::rich, x -> x.edge(628), x -> x.of(6, 2), 2000);
        b.then("a GONE one stays GONE", Towns::rich, x -> x.edge(9999), x -> x.of(6, 4), 1);
        Bounds.Town gone = Towns.with(Towns.one(4, 1999), x -> x.years(1));
        b.takes("at a GONE one", gone, x -> x.edge(2000), 2000);
        b.takes("far ahead of a GONE one", gone, x -> x.edge(100), 2000);
    }

    private static void pace() {
        b.act(3, "pace");
        b.within("pace(lane, 5)", Towns::none, (x, v) -> x.pace(v, 5), 0, 2, 8, 2);
        b.within("pace(lane, 5) in rich", Towns::rich, (x, v) -> x.pace(v, 5), 0, 2, 8, 31);
        b.within("pace(0, v)", Towns::none, (x, v) -> x.pace(0, v), 0, 2, 60, 2);
        b.within("pace(8, v) in rich", Towns::rich, (x, v) -> x.pace(8, v), 0, 31, 60, 31);
        b.then("PACE is 0 then", Towns::none, x -> x.pace(4, 0), x -> x.goes(4, 0), 0);
        b.then("PACE is 60 then", Towns::none, x -> x.pace(4, 60), x -> x.goes(4, 0), 60);
        b.then("another LANE's stays", Towns::none, x -> x.pace(4, 60), x -> x.goes(3, 0) + x.goes(5, 0), 14 + 14);
        b.then("what it was, not what it goes in a warm YEAR", Towns::none, x -> x.warm(127), x -> x.pace(4, 1), 18);
    }

    private static void warm() {
        b.act(4, "warm");
        b.within("warm(set)", Towns::none, (x, v) -> x.warm(v), 0, 0, 127, 0);
        b.within("warm(set) in rich", Towns::rich, (x, v) -> x.warm(v), 0, 10, 127, 10);
        b.then("WARM is all then", Towns::none, x -> x.warm(127), x -> x.now(2), 127);
        b.then("WARM is none then", Towns::rich, x -> x.warm(0), x -> x.now(2), 0);
    }

    private static void goes() {
        b.question(5, "goes");
        b.within("goes(lane, 0)", Towns::none, (x, v) -> x.goes(v, 0), 0, 2, 8, 2);
        b.within("goes(lane, 1) in rich", Towns::rich, (x, v) -> x.goes(v, 1), 0, 3, 8, 46);
        b.within("goes(4, year)", Towns::none, (x, v) -> x.goes(4, v), 0, 18, 999, 18);
        // the rest of 999 by 7 is 5
        Bounds.Town both = x -> x.warm(1 << 0 | 1 << 5);
        b.within("goes(4, year), both warm", both, (x, v) -> x.goes(4, v), 0, 27, 999, 27);
        b.within("goes(8, year) in rich", Towns::rich, (x, v) -> x.goes(8, v), 0, 31, 999, 31);
    }

    private static void goesInSeasons() {
        Bounds.Town first = x -> x.warm(1 << 0);
        Bounds.Town last = x -> x.warm(1 << 6);
        for (int year : new int[] {0, 7, 14, 994}) {
            b.takes("rest 0 in " + year, first, x -> x.goes(4, year), 27);
        }
        for (int year : new int[] {1, 6, 8, 13, 993, 995}) {
            b.takes("another rest in " + year, first, x -> x.goes(4, year), 18);
        }
        for (int year : new int[] {6, 13, 993}) {
            b.takes("rest 6 in " + year, last, x -> x.goes(4, year), 27);
        }
        for (int year : new int[] {0, 5, 7, 12, 14, 992, 994}) {
            b.takes("another rest in " + year, last, x -> x.goes(4, year), 18);
        }
        int[][] halves = {{0, 0}, {1, 1}, {2, 3}, {3, 4}, {59, 88}, {60, 90}};
        for (int[] half : halves) {
            Bounds.Town all = x -> {
                x.warm(127);
                x.pace(4, half[0]);
            };
            b.takes("half of " + half[0] + " more", all, x -> x.goes(4, 3), half[1]);
        }
    }

    private static Bounds.Town paces(int lane, int one, int next, int warm) {
        return x -> {
            x.pace(lane, one);
            x.pace(lane + 1, next);
            x.warm(warm);
        };
    }

    private static void strain() {
        b.question(6, "strain");
        b.within("strain(lane, 0)", Towns::none, (x, v) -> x.strain(v, 0), 0, 4, 7, 4);
        b.within("strain(lane, 0) in rich", Towns::rich, (x, v) -> x.strain(v, 0), 0, 4, 7, 25);
        b.within("strain(7, year) in rich", Towns::rich, (x, v) -> x.strain(7, v), 0, 25, 999, 25);
        Bounds.Town both = x -> x.warm(1 << 0 | 1 << 5);
        b.within("strain(3, year), both warm", both, (x, v) -> x.strain(3, v), 0, 6, 999, 6);
        b.takes("none between equal ones", paces(0, 9, 9, 127), x -> x.strain(0, 0), 0);
        b.takes("the next goes more", paces(0, 0, 60, 0), x -> x.strain(0, 0), 60);
        b.takes("the next goes less", paces(7, 60, 0, 0), x -> x.strain(7, 0), 60);
        b.takes("the most", paces(7, 60, 0, 127), x -> x.strain(7, 0), 90);
        b.takes("halves cut for each, 3 and 4", paces(2, 2, 3, 127), x -> x.strain(2, 0), 1);
        b.takes("halves cut for each, 4 and 6", paces(2, 3, 4, 127), x -> x.strain(2, 0), 2);
    }

    private static void crack() {
        b.question(7, "crack");
        b.within("crack(lane)", Towns::none, (x, v) -> x.crack(v), 0, 24, 7, 24);
        // lane 0: 32 in seven years, so 96 by the end of 20 and 4 more in 21;
        // lane 7: 25 in cold years, 46 less 9 in warm ones, so 25, 62, 87, 124
        b.within("crack(lane) in rich", Towns::rich, (x, v) -> x.crack(v), 0, 21, 7, 3);
        b.refuses("no strain ever", paces(3, 9, 9, 0), x -> x.crack(3), Checker.NONE);
        b.refuses("no strain ever, warm", paces(7, 60, 60, 127), x -> x.crack(7), Checker.NONE);
        b.takes("1 a year: 100 in 99", paces(3, 9, 10, 0), x -> x.crack(3), 99);
        b.takes("2 a year: 100 in 49", paces(3, 10, 8, 0), x -> x.crack(3), 49);
    }

    private static void crackJustThen() {
        int[][] strains = {{33, 3}, {34, 2}, {49, 2}, {50, 1}, {51, 1}, {60, 1}};
        for (int[] s : strains) {
            b.takes(s[0] + " a year", paces(0, 0, s[0], 0), x -> x.crack(0), s[1]);
            b.takes(s[0] + " a year, the other faster", paces(7, s[0], 0, 0), x -> x.crack(7), s[1]);
        }
        b.takes("60 and 40 are 100", paces(0, 0, 40, 1), x -> x.crack(0), 1);
        b.takes("58 and 39 are less", paces(0, 0, 39, 1), x -> x.crack(0), 2);
        b.takes("90 are not yet 100", paces(0, 0, 60, 127), x -> x.crack(0), 1);
        Bounds.Town late = Towns.with(paces(3, 9, 10, 0), x -> Checker.pass(x, 999));
        b.takes("from YEAR 0 on, whatever YEAR is", late, x -> x.crack(3), 99);
    }
}
