/** The bounds of promises 25 to 31: deed, deedOf, whose, meet, stake, learnt, lost. */
public final class DeedBoundsTest {
    private static final Bounds b = new Bounds("DeedBoundsTest");

    public static void main(String[] args) {
        deed();
        deedWhenFull();
        deedOf();
        deedOfAtTheEdge();
        whose();
        meet();
        meetJustSo();
        stake();
        learnt();
        learntPaces();
        lost();
        lostJustThen();
        b.end();
    }

    /** A house of lane 4 at so many feet, with deeds so many feet on. */
    private static Bounds.Town deeds(int feet, int... on) {
        return x -> {
            x.house(0, 4, feet);
            for (int f : on) {
                x.deed(0, f);
            }
        };
    }

    private static void deed() {
        b.act(25, "deed");
        b.within("deed(house, 0)", Towns.two(4, 50, 4, 60), (x, v) -> x.deed(v, 0), 0, 0, 1, 0);
        b.within("deed(0, feet)", Towns::rich, (x, v) -> x.deed(0, v), -999, 3, 999, 3);
        b.beyond("deed(house, 0) in rich", Towns::rich, (x, v) -> x.deed(v, 0), -1, 7);
        b.beyond("deed(house, 0) without houses", Towns::none, (x, v) -> x.deed(v, 0), -1, 0);
        b.refuses("of a GONE one", Towns::rich, x -> x.deed(6, 0), Checker.STATE);
        b.beyond("ahead of STATE, deed(6, feet)", Towns::rich, (x, v) -> x.deed(6, v), -1000, 1000);
        b.then("FEET from where it is then", Towns::rich, x -> x.deed(0, 999), x -> x.deedOf(3, 1), 154 + 999);
        b.then("in its LANE then", Towns::rich, x -> x.deed(4, 0), x -> x.deedOf(3, 0), 6);
    }

    private static Bounds.Town manyDeeds(int many) {
        return x -> {
            x.house(0, 4, 100);
            x.house(0, 4, 1999);
            x.years(1);
            for (int d = 0; d < many; d++) {
                x.deed(0, d);
            }
        };
    }

    private static void deedWhenFull() {
        b.takes("the first", manyDeeds(0), x -> x.deed(0, 0), 0);
        b.takes("a 10th", manyDeeds(9), x -> x.deed(0, 0), 9);
        b.refuses("an 11th", manyDeeds(10), x -> x.deed(0, 0), Checker.FULL);
        b.refuses("ahead of FULL, of a GONE one", manyDeeds(10), x -> x.deed(1, 0), Checker.STATE);
        b.beyond("ahead of FULL, house", manyDeeds(10), (x, v) -> x.deed(v, 0), -1, 2);
        b.beyond("ahead of FULL, feet", manyDeeds(10), (x, v) -> x.deed(0, v), -1000, 1000);
    }

    private static void deedOf() {
        b.question(26, "deedOf");
        b.within("deedOf(deed, 0)", Towns::rich, (x, v) -> x.deedOf(v, 0), 0, 4, 2, 3);
        b.within("deedOf(0, what)", Towns::rich, (x, v) -> x.deedOf(0, v), 0, 4, 1, 120 + 3 * 18);
        b.beyond("deedOf(deed, 0) without deeds", Towns.one(4, 0), (x, v) -> x.deedOf(v, 0), -1, 0);
        b.within("deedOf(deed, 1) of ten", manyDeeds(10), (x, v) -> x.deedOf(v, 1), 0, 118, 9, 127);
        b.takes("its house is GONE", Towns::rich, x -> x.deedOf(1, 0), 4);
        b.takes("the top", deeds(999, -999), x -> x.deedOf(0, 1), 0);
        b.takes("a FOOT below 0", deeds(998, -999), x -> x.deedOf(0, 1), -1);
        b.takes("the lowest", deeds(0, -999), x -> x.deedOf(0, 1), -999);
        Bounds.Town later = Towns.with(deeds(0, -999), x -> x.years(1));
        b.takes("below 0 its LANE goes likewise", later, x -> x.deedOf(0, 1), -981);
    }

    private static void deedOfAtTheEdge() {
        b.takes("a FOOT ahead of EDGE", deeds(1000, 999), x -> x.deedOf(0, 1), 1999);
        b.takes("at EDGE", deeds(1001, 999), x -> x.deedOf(0, 1), 2000);
        b.takes("a FOOT past EDGE", deeds(1002, 999), x -> x.deedOf(0, 1), 2000);
        Bounds.Town moved = Towns.with(deeds(1002, 999), x -> x.edge(2001));
        b.takes("EDGE a FOOT on", moved, x -> x.deedOf(0, 1), 2001);
        Bounds.Town wide = Towns.with(deeds(1002, 999), x -> x.edge(9999));
        b.takes("EDGE far on", wide, x -> x.deedOf(0, 1), 2001);
        Bounds.Town near = Towns.with(deeds(500, 999), x -> x.edge(501));
        b.takes("EDGE comes nearer", near, x -> x.deedOf(0, 1), 501);
        Bounds.Town beyond = Towns.with(deeds(1999, 999), x -> {
            x.years(2);
            x.edge(9999);
        });
        b.takes("it goes on beyond EDGE", beyond, x -> x.deedOf(0, 1), 2998 + 36);
        Bounds.Town farthest = x -> {
            x.edge(9999);
            x.pace(4, 60);
            x.warm(127);
            x.house(0, 4, 9998);
            x.deed(0, 999);
            Checker.pass(x, 999);
        };
        b.takes("EDGE after all YEARS", farthest, x -> x.deedOf(0, 1), 9999);
    }

    private static void whose() {
        b.question(27, "whose");
        b.within("whose(deed)", Towns::rich, (x, v) -> x.whose(v), 0, 0, 2, 1);
        b.takes("nearest to EDGE", Towns::rich, x -> x.whose(1), 5);
        b.beyond("whose(deed) without deeds", Towns.one(4, 0), (x, v) -> x.whose(v), -1, 0);
        Bounds.Town gone = Towns.with(deeds(1999, 0), x -> x.years(1));
        b.refuses("all are GONE", gone, x -> x.whose(0), Checker.NONE);
        Bounds.Town aside = Towns.with(gone, x -> x.house(0, 3, 1999));
        b.refuses("one in another LANE", aside, x -> x.whose(0), Checker.NONE);
        b.takes("one in its LANE", Towns.with(gone, x -> x.house(0, 4, 0)), x -> x.whose(0), 1);
        int[][] near = {{119, 0, 1}, {120, 0, 0}, {121, 1, 0}};
        for (int[] n : near) {
            Bounds.Town rising = Towns.with(deeds(100, n[0] - 100), Towns.one(4, 140));
            b.takes("100 or 140, nearest to " + n[0], rising, x -> x.whose(0), n[1]);
            Bounds.Town falling = Towns.with(deeds(140, n[0] - 140), Towns.one(4, 100));
            b.takes("140 or 100, nearest to " + n[0], falling, x -> x.whose(0), n[2]);
        }
        b.takes("in a full town", Towns::full, x -> x.whose(9), 11);
        b.takes("of several the least", Towns.with(deeds(50, 0), Towns.one(4, 50)), x -> x.whose(0), 0);
        b.takes("of several below 0", Towns.with(deeds(50, -999), Towns.one(4, 49)), x -> x.whose(0), 1);
        Bounds.Town hauled = Towns.with(deeds(1500, 999), x -> {
            x.haul(0, 500);
            x.house(0, 4, 1001);
        });
        b.takes("a POINT past EDGE", hauled, x -> x.whose(0), 1);
    }

    private static void meet() {
        b.question(28, "meet");
        Bounds.Town three = deeds(1000, 0, 10, -10);
        b.within("meet(one, 1, 999)", three, (x, v) -> x.meet(v, 1, 999), 0, 1, 2, 1);
        b.within("meet(1, other, 999)", three, (x, v) -> x.meet(1, v, 999), 0, 1, 2, 1);
        b.within("meet(0, 1, n)", three, (x, v) -> x.meet(0, 1, v), 0, 0, 999, 1);
        b.beyond("one and the same", three, (x, v) -> x.meet(v, v, 5), -1, 0, 1, 2, 3);
        b.beyond("without deeds", Towns.one(4, 0), (x, v) -> x.meet(v, 0, 0), -1, 0, 1);
        b.beyond("two LANES, n", Towns::rich, (x, v) -> x.meet(0, 2, v), -1, 1000);
    }

    private static void meetJustSo() {
        b.takes("10 FEET apart", deeds(1000, 0, 10), x -> x.meet(0, 1, 10), 1);
        b.takes("10 FEET apart, the other way", deeds(1000, 0, 10), x -> x.meet(1, 0, 10), 1);
        b.takes("10 FEET apart", deeds(1000, 0, 10), x -> x.meet(0, 1, 9), 0);
        b.takes("10 FEET apart, the other way", deeds(1000, 0, 10), x -> x.meet(1, 0, 9), 0);
        b.takes("10 FEET apart", deeds(1000, 0, 10), x -> x.meet(0, 1, 11), 1);
        b.takes("in one PLACE", deeds(1000, 7, 7), x -> x.meet(0, 1, 0), 1);
        b.takes("a FOOT apart", deeds(1000, 7, 8), x -> x.meet(0, 1, 0), 0);
        b.takes("999 FEET apart", deeds(1000, -500, 499), x -> x.meet(0, 1, 999), 1);
        b.takes("1000 FEET apart", deeds(1000, -500, 500), x -> x.meet(0, 1, 999), 0);
        b.takes("two LANES", Towns::rich, x -> x.meet(0, 2, 999), 0);
        Bounds.Town lanes = x -> {
            x.house(0, 4, 100);
            x.house(0, 3, 100);
            x.deed(0, 0);
            x.deed(1, 0);
        };
        b.takes("two LANES, as many FEET", lanes, x -> x.meet(0, 1, 999), 0);
        b.takes("both past EDGE", deeds(1500, 500, 999), x -> x.meet(0, 1, 0), 1);
        b.takes("one past EDGE", deeds(1500, 499, 999), x -> x.meet(0, 1, 0), 0);
        b.takes("one past EDGE", deeds(1500, 499, 999), x -> x.meet(0, 1, 1), 1);
    }

    private static Bounds.Town stakes(int many) {
        return x -> {
            for (int s = 0; s < many; s++) {
                x.stake(4, 0, 1, 18);
            }
        };
    }

    private static void stake() {
        b.act(29, "stake");
        b.within("stake(lane, 0, 1, 0)", Towns::rich, (x, v) -> x.stake(v, 0, 1, 0), 0, 2, 8, 2);
        b.within("stake(0, year, 1, 0)", Towns::rich, (x, v) -> x.stake(0, v, 1, 0), 0, 2, 999, 2);
        b.within("stake(0, 0, n, 0)", Towns::rich, (x, v) -> x.stake(0, 0, v, 0), 1, 2, 60, 2);
        b.within("stake(0, 0, 1, went)", Towns::rich, (x, v) -> x.stake(0, 0, 1, v), 0, 2, 9999, 2);
        b.takes("all at their least", Towns::none, x -> x.stake(0, 0, 1, 0), 0);
        b.takes("all at their most", Towns::none, x -> x.stake(8, 999, 60, 9999), 0);
        b.takes("a 10th", stakes(9), x -> x.stake(0, 0, 1, 0), 9);
        b.refuses("an 11th", stakes(10), x -> x.stake(0, 0, 1, 0), Checker.FULL);
        b.beyond("ahead of FULL, lane", stakes(10), (x, v) -> x.stake(v, 0, 1, 0), -1, 9);
        b.beyond("ahead of FULL, year", stakes(10), (x, v) -> x.stake(0, v, 1, 0), -1, 1000);
        b.beyond("ahead of FULL, n", stakes(10), (x, v) -> x.stake(0, 0, v, 0), 0, 61);
        b.beyond("ahead of FULL, went", stakes(10), (x, v) -> x.stake(0, 0, 1, v), -1, 10000);
    }

    private static void learnt() {
        b.question(30, "learnt");
        b.within("learnt(lane, 2)", Towns::rich, (x, v) -> x.learnt(v, 2), 0, 61, 8, 61);
        b.within("learnt(3, what)", Towns::rich, (x, v) -> x.learnt(3, v), 0, 14, 2, 1);
        b.takes("the greatest of one", Towns::rich, x -> x.learnt(3, 1), 14);
        b.within("learnt(0, what) without stakes", Towns::none, (x, v) -> x.learnt(0, v), 0, 0, 2, 61);
        b.takes("the greatest without stakes", Towns::none, x -> x.learnt(0, 1), 60);
        // years 0 and 1 of rich, the second warm: 14 goes 35, 15 goes 37
        b.refuses("the least of none", Towns::rich, x -> x.learnt(4, 0), Checker.NONE);
        b.refuses("the greatest of none", Towns::rich, x -> x.learnt(4, 1), Checker.NONE);
        b.takes("how many of none", Towns::rich, x -> x.learnt(4, 2), 0);
        b.beyond("ahead of NONE, what", Towns::rich, (x, v) -> x.learnt(4, v), -1, 3);
    }

    private static Bounds.Town staked(int warm, int year, int n, int went) {
        return x -> {
            x.warm(warm);
            x.stake(4, year, n, went);
        };
    }

    private static void learntPaces() {
        b.takes("0 alone fits", staked(0, 0, 60, 0), x -> x.learnt(4, 1), 0);
        b.takes("0 alone fits", staked(0, 0, 60, 0), x -> x.learnt(4, 2), 1);
        b.takes("60 alone fits", staked(0, 0, 60, 3600), x -> x.learnt(4, 0), 60);
        b.refuses("61 would", staked(0, 0, 60, 3660), x -> x.learnt(4, 0), Checker.NONE);
        b.refuses("a FOOT more", staked(0, 0, 60, 3601), x -> x.learnt(4, 0), Checker.NONE);
        b.refuses("a FOOT less", staked(0, 0, 60, 3599), x -> x.learnt(4, 0), Checker.NONE);
        b.takes("60 in warm YEARS", staked(127, 0, 60, 5400), x -> x.learnt(4, 0), 60);
        b.takes("1 in warm YEARS, half is cut", staked(127, 0, 1, 1), x -> x.learnt(4, 0), 1);
        b.refuses("2 in a warm YEAR", staked(127, 0, 1, 2), x -> x.learnt(4, 0), Checker.NONE);
        b.takes("2 goes 3", staked(127, 0, 1, 3), x -> x.learnt(4, 0), 2);
        // 999 rests 5; of 60 years from there the 1st, 8th, .. 57th rest so: nine
        b.takes("from 999 on", staked(1 << 5, 999, 60, 120 + 9), x -> x.learnt(4, 0), 2);
        b.refuses("from 999 on, eight", staked(1 << 5, 999, 60, 120 + 8), x -> x.learnt(4, 0), Checker.NONE);
        b.takes("the YEAR ahead isn't of it", staked(1 << 2, 3, 6, 12), x -> x.learnt(4, 0), 2);
        b.takes("the last is", staked(1 << 2, 3, 7, 15), x -> x.learnt(4, 0), 2);
        b.takes("ten that agree", stakes(10), x -> x.learnt(4, 2), 1);
        Bounds.Town odd = Towns.with(stakes(9), x -> x.stake(4, 0, 1, 17));
        b.takes("the last of ten doesn't", odd, x -> x.learnt(4, 2), 0);
        Bounds.Town aside = Towns.with(stakes(9), x -> x.stake(3, 0, 1, 17));
        b.takes("another LANE's doesn't count", aside, x -> x.learnt(4, 2), 1);
    }

    private static void lost() {
        b.question(31, "lost");
        b.within("lost(lane, 1999)", Towns::none, (x, v) -> x.lost(v, 1999), 0, 1, 8, 1);
        b.within("lost(4, feet)", Towns::none, (x, v) -> x.lost(4, v), 0, 223, 1999, 1);
        b.within("lost(4, feet), EDGE 100", x -> x.edge(100), (x, v) -> x.lost(4, v), 0, 12, 99, 1);
        b.takes("lost(4, 9998), EDGE 9999", x -> x.edge(9999), x -> x.lost(4, 9998), 1);
        b.beyond("lost(4, feet), EDGE 9999", x -> x.edge(9999), (x, v) -> x.lost(4, v), -1, 9999);
        b.takes("from 599", Towns.still(599), x -> x.lost(4, 1991), 1);
        b.refuses("never from 599", Towns.still(599), x -> x.lost(0, 1999), Checker.NONE);
        b.refuses("from 600", Towns.still(600), x -> x.lost(4, 1991), Checker.STATE);
        b.refuses("ahead of NONE, from 600", Towns.still(600), x -> x.lost(0, 1999), Checker.STATE);
        b.refuses("from 999", Towns.still(999), x -> x.lost(4, 1991), Checker.STATE);
        b.beyond("ahead of STATE, lane", Towns.still(600), (x, v) -> x.lost(v, 0), -1, 9);
        b.beyond("ahead of STATE, feet", Towns.still(600), (x, v) -> x.lost(4, v), -1, 2000);
    }

    private static void lostJustThen() {
        b.takes("at EDGE in one", Towns::none, x -> x.lost(4, 1991), 1);
        b.takes("a FOOT short in one", Towns::none, x -> x.lost(4, 1990), 2);
        // lane 0 goes 2, and half of it is 1
        b.takes("in 399", Towns::none, x -> x.lost(0, 1601), 399);
        b.takes("in 400", Towns::none, x -> x.lost(0, 1600), 400);
        b.refuses("in 401", Towns::none, x -> x.lost(0, 1599), Checker.NONE);
        b.takes("in 400 from 599", x -> Checker.pass(x, 599), x -> x.lost(0, 1600), 400);
        b.refuses("half of 1 is none", x -> x.pace(0, 1), x -> x.lost(0, 1999), Checker.NONE);
        b.takes("half of 3 is 1", x -> x.pace(0, 3), x -> x.lost(0, 1998), 2);
        Bounds.Town warm = x -> {
            x.pace(0, 3);
            x.warm(1);
        };
        b.takes("half of 4 is 2", warm, x -> x.lost(0, 1998), 1);
        int[][] spring = {{1991, 1}, {1990, 2}, {1978, 2}, {1977, 3}, {1969, 3}, {1968, 4}};
        for (int[] s : spring) {
            b.takes("9, 13, 9, 9 from " + s[0], Towns.inSpring(Towns::none), x -> x.lost(4, s[0]), s[1]);
        }
    }
}
