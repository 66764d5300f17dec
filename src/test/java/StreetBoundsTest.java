/** The bounds of promises 20 to 24: beside, till, straight, when, lay. */
public final class StreetBoundsTest {
    private static final Bounds b = new Bounds("StreetBoundsTest");

    public static void main(String[] args) {
        beside();
        besideAtTheEnds();
        till();
        tillJustThen();
        straightSets();
        straightYears();
        straightInOneLane();
        straightOverLanes();
        straightAndGone();
        whenSets();
        whenYears();
        lay();
        layGoneByThen();
        b.end();
    }

    private static void beside() {
        b.question(20, "beside");
        b.within("beside(house)", Towns.two(4, 50, 4, 60), (x, v) -> x.beside(v), 0, 2, 1, 1);
        b.beyond("beside(house) in rich", Towns::rich, (x, v) -> x.beside(v), -1, 7);
        b.beyond("beside(house) without houses", Towns::none, (x, v) -> x.beside(v), -1, 0);
        b.refuses("a GONE one", Towns::rich, x -> x.beside(6), Checker.STATE);
        for (int lane = 2; lane <= 6; lane++) {
            int due = lane >= 3 && lane <= 5 ? 1 : 0;
            for (int off : new int[] {0, 29, 30, -29, -30}) {
                String what = "lane " + lane + " against 4, " + off + " FEET";
                b.takes(what, Towns.two(4, 100, lane, 100 + off), x -> x.beside(0), 2 * due);
                b.takes(what, Towns.two(4, 100, lane, 100 + off), x -> x.beside(1), due);
            }
            for (int off : new int[] {31, -31}) {
                String what = "lane " + lane + " against 4, " + off + " FEET";
                b.takes(what, Towns.two(4, 100, lane, 100 + off), x -> x.beside(0), 0);
            }
        }
    }

    private static void besideAtTheEnds() {
        b.takes("one alone", Towns.one(4, 0), x -> x.beside(0), 0);
        b.takes("lanes 0 and 8 are not next to one another", Towns.two(0, 5, 8, 5), x -> x.beside(0), 0);
        b.takes("lanes 0 and 1", Towns.two(0, 5, 1, 5), x -> x.beside(0), 2);
        b.takes("lanes 8 and 7", Towns.two(8, 5, 7, 5), x -> x.beside(0), 2);
        Bounds.Town heap = x -> {
            for (int h = 0; h < 12; h++) {
                x.house(0, 4, 7);
            }
        };
        b.takes("all but the first", heap, x -> x.beside(0), 0b111111111110);
        b.takes("all but the last", heap, x -> x.beside(11), 0b011111111111);
        Bounds.Town ruin = x -> {
            x.house(0, 4, 1999);
            x.years(1);
            x.edge(2010);
            x.house(0, 4, 2000);
        };
        b.takes("a GONE one is beside none", ruin, x -> x.beside(1), 0);
        b.refuses("nor one beside it", ruin, x -> x.beside(0), Checker.STATE);
    }

    private static void till() {
        b.question(21, "till");
        // at 0, 10 and 20 feet in a lane that goes 18: the last is gone in 110 years, the second in 111
        b.within("till(one, 1)", Towns.houses(3), (x, v) -> x.till(v, 1), 0, 111, 2, 110);
        b.within("till(1, other)", Towns.houses(3), (x, v) -> x.till(1, v), 0, 111, 2, 110);
        b.beyond("one and the same", Towns.houses(3), (x, v) -> x.till(v, v), -1, 0, 1, 2, 3);
        b.beyond("without houses", Towns::none, (x, v) -> x.till(v, 0), -1, 0, 1);
        b.takes("up to 200, from 799", Towns.still(799), x -> x.till(0, 1), 201);
        b.refuses("from 800", Towns.still(800), x -> x.till(0, 1), Checker.STATE);
        b.refuses("from 999", Towns.still(999), x -> x.till(0, 1), Checker.STATE);
        b.takes("a GONE one", Towns.still(799), x -> x.till(0, 2), 0);
        b.takes("a GONE one, the other way", Towns.still(799), x -> x.till(2, 0), 0);
        b.refuses("a GONE one from 800", Towns.still(800), x -> x.till(0, 2), Checker.STATE);
        b.beyond("ahead of STATE, one and the same", Towns.still(800), (x, v) -> x.till(v, v), 0, 2);
        b.beyond("ahead of STATE, one", Towns.still(800), (x, v) -> x.till(v, 0), -1, 3);
        b.beyond("ahead of STATE, other", Towns.still(800), (x, v) -> x.till(0, v), -1, 3);
    }

    /** Lane 4 goes a foot a year more than lane 3. */
    private static Bounds.Town parting(int feet, int feetOfFaster) {
        return x -> {
            x.pace(3, 1);
            x.pace(4, 2);
            x.house(0, 3, feet);
            x.house(0, 4, feetOfFaster);
        };
    }

    private static void tillJustThen() {
        b.takes("31 FEET apart now", Towns.two(4, 100, 4, 131), x -> x.till(0, 1), 0);
        b.takes("31 FEET apart in one", parting(100, 130), x -> x.till(0, 1), 1);
        b.takes("31 FEET apart in 31", parting(100, 100), x -> x.till(0, 1), 31);
        b.takes("31 FEET apart in 61", parting(130, 100), x -> x.till(0, 1), 61);
        b.takes("two lanes apart", Towns.two(3, 100, 5, 100), x -> x.till(0, 1), 0);
        Bounds.Town pair = x -> {
            x.pace(0, 10);
            x.house(0, 0, 0);
            x.house(0, 0, 0);
        };
        b.takes("both GONE in 199", Towns.with(pair, x -> x.edge(1990)), x -> x.till(0, 1), 199);
        b.takes("both GONE in 200", pair, x -> x.till(0, 1), 200);
        b.takes("both GONE in 201", Towns.with(pair, x -> x.edge(2001)), x -> x.till(0, 1), 201);
        b.takes("BESIDE for ever", Towns.still(0), x -> x.till(0, 1), 201);
        // lane 4 goes 4 more than lane 3, and 6 more in the second year
        int[][] spring = {{27, 1}, {26, 2}, {21, 2}, {20, 3}, {17, 3}, {16, 4}};
        for (int[] s : spring) {
            Bounds.Town town = Towns.inSpring(Towns.two(3, 100, 4, 100 + s[0]));
            b.takes("4, 6, 4, 4 from " + s[0], town, x -> x.till(0, 1), s[1]);
        }
    }

    private static void straightSets() {
        b.question(22, "straight");
        b.beyond("straight(set, 0) of three", Towns.houses(3), (x, v) -> x.straight(v, 0),
            0, 1, 2, 4, 8, 9, 11, 15, -1, 1 << 12 | 3, 1 << 16 | 3, 1 << 31 | 3, Integer.MIN_VALUE, Integer.MAX_VALUE);
        for (int set : new int[] {3, 5, 6, 7}) {
            b.takes("straight(" + set + ", 0), 10 FEET apart", Towns.houses(3), x -> x.straight(set, 0), 0);
        }
        b.beyond("straight(set, 0) of none", Towns::none, (x, v) -> x.straight(v, 0), 0, 1, 3);
        b.beyond("straight(set, 0) of one", Towns.one(4, 0), (x, v) -> x.straight(v, 0), 0, 1, 2, 3);
        Bounds.Town heap = x -> {
            for (int h = 0; h < 12; h++) {
                x.house(0, 4, 7);
            }
        };
        b.takes("all twelve", heap, x -> x.straight(4095, 0), 1);
        b.takes("the first and the last", heap, x -> x.straight(1 << 11 | 1, 0), 1);
        b.beyond("straight(set, 0) of twelve", heap, (x, v) -> x.straight(v, 0), 4096, 4097, 8191, 1 << 11);
    }

    private static Bounds.Town standingIn(int year) {
        return x -> {
            x.pace(0, 0);
            x.house(0, 0, 100);
            x.house(0, 0, 105);
            x.house(0, 4, 1999);
            Checker.pass(x, year);
        };
    }

    private static void straightYears() {
        b.within("straight(3, n)", standingIn(0), (x, v) -> x.straight(3, v), 0, 1, 200, 1);
        b.takes("to 999 from 799", standingIn(799), x -> x.straight(3, 200), 1);
        b.refuses("to 1000 from 800", standingIn(800), x -> x.straight(3, 200), Checker.STATE);
        b.takes("to 999 from 800", standingIn(800), x -> x.straight(3, 199), 1);
        b.takes("0 from 999", standingIn(999), x -> x.straight(3, 0), 1);
        b.refuses("to 1000 from 999", standingIn(999), x -> x.straight(3, 1), Checker.STATE);
        b.refuses("to 1000 with a GONE one", standingIn(999), x -> x.straight(7, 1), Checker.STATE);
        b.beyond("ahead of STATE, n", standingIn(999), (x, v) -> x.straight(3, v), -1, 201);
        b.beyond("ahead of STATE, set", standingIn(999), (x, v) -> x.straight(v, 1), 0, 1, 8, 9);
    }

    private static void straightInOneLane() {
        for (int off : new int[] {0, 4, 5, -4, -5}) {
            b.takes("in one LANE, " + off, Towns.two(4, 100, 4, 100 + off), x -> x.straight(3, 0), 1);
        }
        for (int off : new int[] {6, -6, 99}) {
            b.takes("in one LANE, " + off, Towns.two(4, 100, 4, 100 + off), x -> x.straight(3, 0), 0);
        }
        b.takes("in one LANE, 3 and 3", at(4, 100, 4, 103, 4, 106), x -> x.straight(7, 0), 0);
        b.takes("in one LANE, 3 and 2", at(4, 100, 4, 103, 4, 105), x -> x.straight(7, 0), 1);
    }

    /** Houses of kind 0, told by lanes and feet in turn. */
    private static Bounds.Town at(int... lanesAndFeet) {
        return x -> {
            for (int i = 0; i + 1 < lanesAndFeet.length; i += 2) {
                x.house(0, lanesAndFeet[i], lanesAndFeet[i + 1]);
            }
        };
    }

    private static void straightOverLanes() {
        b.takes("two LANES, one difference", at(3, 0, 4, 1999), x -> x.straight(3, 0), 1);
        b.takes("LANES that aren't next to one another", at(0, 0, 2, 1999), x -> x.straight(3, 0), 1);
        b.takes("LANES 0 and 8", at(0, 0, 8, 1999), x -> x.straight(3, 0), 1);
        int[][] ends = {{20, 1}, {25, 1}, {26, 0}, {15, 1}, {14, 0}};
        for (int[] e : ends) {
            b.takes("20 and " + e[0], at(3, 100, 4, 120, 5, 120 + e[0]), x -> x.straight(7, 0), e[1]);
            b.takes("20 and far off " + e[0], at(0, 100, 1, 120, 7, 500, 8, 500 + e[0]), x -> x.straight(15, 0), e[1]);
            b.takes("-20 and " + -e[0], at(3, 100, 4, 80, 5, 80 - e[0]), x -> x.straight(7, 0), e[1]);
        }
        b.takes("20, 23, 18, 21", at(3, 100, 3, 102, 4, 120, 4, 123), x -> x.straight(15, 0), 1);
        b.takes("20, 23, 17, 20", at(3, 100, 3, 103, 4, 120, 4, 123), x -> x.straight(15, 0), 0);
        b.takes("the bend comes with the YEARS, 24 and 16", at(3, 100, 4, 120, 5, 140), x -> x.straight(7, 1), 0);
        b.takes("and goes with them, 24 and 20", at(3, 100, 4, 120, 5, 144), x -> x.straight(7, 1), 1);
        // by 4 and 6 in two years: -5 and 0, but -7 and 2 by 4 and 4
        Bounds.Town spring = Towns.inSpring(at(3, 115, 4, 100, 5, 110));
        b.takes("in a warm YEAR ahead, -5 and 0", spring, x -> x.straight(7, 2), 1);
        b.takes("ahead of it, -11 and 6", spring, x -> x.straight(7, 1), 0);
        Bounds.Town others = at(0, 0, 1, 100, 4, 0, 5, 50);
        b.then("what was asked ahead is forgotten", others, x -> x.straight(3, 0), x -> x.straight(14, 0), 1);
    }

    private static void straightAndGone() {
        b.takes("one GONE now", standingIn(1), x -> x.straight(7, 0), 0);
        b.takes("a GONE one that isn't of the set", standingIn(1), x -> x.straight(3, 0), 1);
        b.takes("one just ahead of EDGE then", Towns.two(4, 1980, 4, 1981), x -> x.straight(3, 1), 1);
        b.takes("one GONE just then", Towns.two(4, 1980, 4, 1982), x -> x.straight(3, 1), 0);
        b.takes("both GONE then", Towns.two(4, 1985, 4, 1982), x -> x.straight(3, 1), 0);
    }

    private static void whenSets() {
        b.question(23, "when");
        b.beyond("when(set) of three", Towns.houses(3), (x, v) -> x.when(v),
            0, 1, 2, 4, 8, 9, 11, 15, -1, 1 << 12 | 3, 1 << 31 | 3, Integer.MIN_VALUE, Integer.MAX_VALUE);
        for (int set : new int[] {3, 5, 6, 7}) {
            b.refuses("when(" + set + "), 10 FEET apart", Towns.houses(3), x -> x.when(set), Checker.NONE);
        }
        b.beyond("when(set) of none", Towns::none, (x, v) -> x.when(v), 0, 1, 3);
        b.beyond("ahead of STATE", standingIn(940), (x, v) -> x.when(v), 0, 1, 8, 9);
    }

    /** Lane 4 goes a foot more than 3 and 5, so that each year the differences come nearer by two. */
    private static Bounds.Town straightening(int feet) {
        return x -> {
            x.pace(3, 1);
            x.pace(4, 2);
            x.pace(5, 1);
            x.house(0, 3, feet);
            x.house(0, 4, 100);
            x.house(0, 5, feet);
        };
    }

    private static void whenYears() {
        b.takes("now", standingIn(0), x -> x.when(3), 0);
        b.takes("from -62 and 62: in 60", straightening(162), x -> x.when(7), 60);
        b.takes("from -61 and 61: in 59", straightening(161), x -> x.when(7), 59);
        b.refuses("from -63 and 63: only in 61", straightening(163), x -> x.when(7), Checker.NONE);
        b.takes("from -3 and 3: in one", straightening(103), x -> x.when(7), 1);
        b.takes("from -2 and 2: now", straightening(102), x -> x.when(7), 0);
        b.takes("from 939", standingIn(939), x -> x.when(3), 0);
        b.refuses("never from 939", Towns.still(939), x -> x.when(3), Checker.NONE);
        b.refuses("from 940", standingIn(940), x -> x.when(3), Checker.STATE);
        b.refuses("ahead of NONE, from 940", Towns.still(940), x -> x.when(3), Checker.STATE);
        b.refuses("one GONE", standingIn(1), x -> x.when(7), Checker.NONE);
        b.takes("a GONE one that isn't of the set", standingIn(1), x -> x.when(3), 0);
        Bounds.Town near = Towns.with(straightening(103), x -> x.edge(105));
        b.takes("a FOOT ahead of EDGE then", near, x -> x.when(7), 1);
        Bounds.Town over = Towns.with(straightening(103), x -> x.edge(104));
        b.refuses("GONE just then", over, x -> x.when(7), Checker.NONE);
        b.takes("-11 and 6, then -5 and 0", Towns.inSpring(at(3, 115, 4, 100, 5, 110)), x -> x.when(7), 2);
        b.takes("-15 and 14, -11 and 10, -5 and 4, -1 and 0", Towns.inSpring(at(3, 115, 4, 100, 5, 114)),
            x -> x.when(7), 3);
    }

    private static void lay() {
        b.question(24, "lay");
        b.within("lay(house, 4, 0)", Towns.two(4, 50, 4, 60), (x, v) -> x.lay(v, 4, 0), 0, 50, 1, 60);
        b.within("lay(0, lane, 1)", Towns.one(4, 50), (x, v) -> x.lay(0, v, 1), 0, 66, 8, 66);
        b.within("lay(0, 0, n)", Towns.one(4, 50), (x, v) -> x.lay(0, 0, v), 0, 50, 60, 50 + 1080 - 120);
        b.beyond("lay(house, 0, 0) in rich", Towns::rich, (x, v) -> x.lay(v, 0, 0), -1, 7);
        b.beyond("lay(house, 0, 0) without houses", Towns::none, (x, v) -> x.lay(v, 0, 0), -1, 0);
        b.takes("at the top", Towns.one(0, 16), x -> x.lay(0, 4, 1), 0);
        b.takes("a FOOT below 0", Towns.one(0, 15), x -> x.lay(0, 4, 1), -1);
        b.takes("far below 0", Towns.one(0, 0), x -> x.lay(0, 4, 60), 120 - 1080);
        Bounds.Town lowest = x -> {
            x.pace(0, 0);
            x.pace(4, 60);
            x.warm(127);
            x.house(0, 0, 0);
        };
        b.takes("the lowest", lowest, x -> x.lay(0, 4, 60), -5400);
        b.takes("to 999 from 939", Towns.still(939), x -> x.lay(0, 0, 60), 100);
        b.refuses("to 1000 from 940", Towns.still(940), x -> x.lay(0, 0, 60), Checker.STATE);
        b.takes("to 999 from 940", Towns.still(940), x -> x.lay(0, 0, 59), 100);
        b.takes("0 from 999", Towns.still(999), x -> x.lay(0, 0, 0), 100);
        b.refuses("to 1000 from 999", Towns.still(999), x -> x.lay(0, 0, 1), Checker.STATE);
        b.beyond("ahead of STATE, house", Towns.still(999), (x, v) -> x.lay(v, 0, 1), -1, 3);
        b.beyond("ahead of STATE, lane", Towns.still(999), (x, v) -> x.lay(0, v, 1), -1, 9);
        b.beyond("ahead of STATE, n", Towns.still(999), (x, v) -> x.lay(0, 0, v), -1, 61);
    }

    private static void layGoneByThen() {
        b.takes("a FOOT ahead of EDGE", Towns.one(4, 1981), x -> x.lay(0, 0, 1), 1997);
        b.refuses("GONE by then", Towns.one(4, 1982), x -> x.lay(0, 0, 1), Checker.STATE);
        b.refuses("GONE in the second", Towns.one(4, 1981), x -> x.lay(0, 0, 2), Checker.STATE);
        b.refuses("GONE now", Towns::rich, x -> x.lay(6, 0, 0), Checker.STATE);
        int[] spring = {16, 40, 56};
        for (int n = 1; n <= 3; n++) {
            int years = n;
            b.takes("18 less 2, 27 less 3, 18 less 2", Towns.inSpring(Towns.one(4, 0)), x -> x.lay(0, 0, years),
                spring[n - 1]);
        }
        b.beyond("ahead of GONE, lane", Towns::rich, (x, v) -> x.lay(6, v, 0), -1, 9);
        b.beyond("ahead of GONE, n", Towns::rich, (x, v) -> x.lay(6, 0, v), -1, 61);
    }
}
