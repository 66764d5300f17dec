/** Promises 25 to 31: deed, deedOf, whose, meet, stake, learnt, lost. */
public final class DeedsTest {
    private static final Checker c = new Checker("DeedsTest");

    public static void main(String[] args) {
        deed();
        deedOf();
        whose();
        meet();
        stake();
        learnt();
        lost();
        c.end();
    }

    private static void deed() {
        GlacierStreets x = new GlacierStreets();
        x.house(0, 4, 1990);
        x.house(0, 0, 5);
        c.due("deed(0, -1000)", x.deed(0, -1000), Checker.BEYOND);
        c.due("deed(0, 1000)", x.deed(0, 1000), Checker.BEYOND);
        c.due("deed(2, 0)", x.deed(2, 0), Checker.BEYOND);
        c.due("deed(-1, 0)", x.deed(-1, 0), Checker.BEYOND);
        c.due("deed(0, 999)", x.deed(0, 999), 0);
        c.due("deed(0, -999)", x.deed(0, -999), 1);
        x.years(1);
        c.due("deed of a gone one", x.deed(0, 0), Checker.STATE);
        for (int d = 2; d < 10; d++) {
            c.due("deed " + d, x.deed(1, d), d);
        }
        c.due("an 11th deed", x.deed(1, 0), Checker.FULL);
        c.due("an 11th deed of a gone one", x.deed(0, 0), Checker.STATE);
        c.due("a wrong 11th deed", x.deed(1, 1000), Checker.BEYOND);
        c.due("count(1)", x.count(1), 10);
    }

    private static void deedOf() {
        GlacierStreets x = new GlacierStreets();
        x.house(5, 4, 1000);
        x.deed(0, 999);
        x.deed(0, -999);
        c.due("deedOf(0, 0)", x.deedOf(0, 0), 4);
        c.due("deedOf(0, 1)", x.deedOf(0, 1), 1999);
        c.due("deedOf(1, 1)", x.deedOf(1, 1), 1);
        x.warm(1);
        x.years(1);
        c.due("it goes as the ice, not as its house", x.deedOf(1, 1), 28);
        c.due("its place ends at the edge", x.deedOf(0, 1), 2000);
        x.years(1);
        x.edge(3000);
        c.due("it went on beyond the edge", x.deedOf(0, 1), 1999 + 27 + 18);
        x.haul(0, 500);
        x.turn(0, 3);
        c.due("it stays where its house is hauled", x.deedOf(0, 1), 1999 + 27 + 18);
        c.due("deedOf(0, 2)", x.deedOf(0, 2), Checker.BEYOND);
        c.due("deedOf(0, -1)", x.deedOf(0, -1), Checker.BEYOND);
        c.due("deedOf(2, 0)", x.deedOf(2, 0), Checker.BEYOND);
        c.due("deedOf(-1, 0)", x.deedOf(-1, 0), Checker.BEYOND);
        x.house(0, 0, 0);
        x.deed(1, -10);
        x.years(1);
        c.due("below 0 it goes likewise", x.deedOf(2, 1), -8);
    }

    private static void whose() {
        GlacierStreets x = new GlacierStreets();
        x.house(0, 4, 100);
        x.house(0, 4, 140);
        x.house(0, 3, 121);
        x.house(0, 4, 1990);
        x.house(0, 5, 0);
        x.deed(0, 20);
        x.deed(0, 21);
        x.deed(3, 500);
        x.deed(4, 5);
        c.due("whose(0), of two the least", x.whose(0), 0);
        c.due("whose(1)", x.whose(1), 1);
        c.due("whose(2)", x.whose(2), 3);
        c.due("whose(3)", x.whose(3), 4);
        x.years(1);
        c.due("whose(2), the nearest is gone", x.whose(2), 1);
        Checker.pass(x, 200);
        c.due("whose(0), all are gone", x.whose(0), Checker.NONE);
        c.due("whose(4)", x.whose(4), Checker.BEYOND);
        c.due("whose(-1)", x.whose(-1), Checker.BEYOND);
        GlacierStreets y = new GlacierStreets();
        y.edge(1000);
        y.house(0, 4, 900);
        y.house(0, 4, 100);
        y.deed(0, 999);
        y.haul(0, 890);
        c.due("nearest to the place, not to the point", y.whose(0), 1);
    }

    private static void meet() {
        GlacierStreets x = new GlacierStreets();
        x.house(0, 4, 1990);
        x.house(0, 3, 1990);
        x.deed(0, 0);
        x.deed(0, -7);
        x.deed(1, 0);
        x.deed(0, 999);
        x.deed(0, 11);
        c.due("meet(0, 1, 7)", x.meet(0, 1, 7), 1);
        c.due("meet(1, 0, 6)", x.meet(1, 0, 6), 0);
        c.due("meet(0, 2, 999), two lanes", x.meet(0, 2, 999), 0);
        c.due("meet(3, 4, 0), both at the edge", x.meet(3, 4, 0), 1);
        c.due("meet(0, 3, 10), one at the edge", x.meet(0, 3, 10), 1);
        c.due("meet(0, 3, 9)", x.meet(0, 3, 9), 0);
        c.due("meet(0, 0, 1)", x.meet(0, 0, 1), Checker.BEYOND);
        c.due("meet(0, 5, 1)", x.meet(0, 5, 1), Checker.BEYOND);
        c.due("meet(5, 0, 1)", x.meet(5, 0, 1), Checker.BEYOND);
        c.due("meet(0, 1, -1)", x.meet(0, 1, -1), Checker.BEYOND);
        c.due("meet(0, 1, 1000)", x.meet(0, 1, 1000), Checker.BEYOND);
        x.edge(9999);
        c.due("meet(3, 4, 987)", x.meet(3, 4, 987), 0);
        c.due("meet(3, 4, 988)", x.meet(3, 4, 988), 1);
    }

    private static void stake() {
        GlacierStreets x = new GlacierStreets();
        int[][] wrong = {
            {-1, 0, 1, 0}, {9, 0, 1, 0}, {0, -1, 1, 0}, {0, 1000, 1, 0},
            {0, 0, 0, 0}, {0, 0, 61, 0}, {0, 0, 1, -1}, {0, 0, 1, 10000},
        };
        for (int[] w : wrong) {
            c.due("stake(" + w[0] + ", " + w[1] + ", " + w[2] + ", " + w[3] + ")",
                x.stake(w[0], w[1], w[2], w[3]), Checker.BEYOND);
        }
        c.due("stake(8, 999, 60, 9999)", x.stake(8, 999, 60, 9999), 0);
        c.due("stake(0, 0, 1, 0)", x.stake(0, 0, 1, 0), 1);
        for (int s = 2; s < 10; s++) {
            c.due("stake " + s, x.stake(1, s, s, 1), s);
        }
        c.due("an 11th stake", x.stake(0, 0, 1, 0), Checker.FULL);
        c.due("a wrong 11th stake", x.stake(9, 0, 1, 0), Checker.BEYOND);
        c.due("count(2)", x.count(2), 10);
    }

    private static void learnt() {
        GlacierStreets x = new GlacierStreets();
        for (int what = 0; what < 3; what++) {
            c.due("learnt(5, " + what + ") without stakes", x.learnt(5, what), new int[] {0, 60, 61}[what]);
        }
        x.warm(1 << 3);
        x.stake(5, 3, 1, 45);
        c.due("30 alone goes 45", x.learnt(5, 0), 30);
        c.due("30 alone goes 45", x.learnt(5, 1), 30);
        c.due("30 alone goes 45", x.learnt(5, 2), 1);
        c.due("other lanes have no stakes", x.learnt(4, 2), 61);
        x.stake(5, 990, 60, 30 * 60 + 15 * 8);
        c.due("990 rests 3: nine warm years to 1049", x.learnt(5, 2), 0);
        c.due("none", x.learnt(5, 0), Checker.NONE);
        c.due("none", x.learnt(5, 1), Checker.NONE);
        x.stake(6, 990, 60, 30 * 60 + 15 * 9);
        c.due("nine warm years", x.learnt(6, 0), 30);
        x.warm(0);
        c.due("without them", x.learnt(5, 0), Checker.NONE);
        x.stake(7, 0, 60, 3600);
        c.due("the most", x.learnt(7, 0), 60);
        x.stake(8, 0, 60, 3660);
        c.due("61 is none", x.learnt(8, 2), 0);
        c.due("learnt(9, 0)", x.learnt(9, 0), Checker.BEYOND);
        c.due("learnt(0, 3)", x.learnt(0, 3), Checker.BEYOND);
        c.due("learnt(0, -1)", x.learnt(0, -1), Checker.BEYOND);
    }

    private static void lost() {
        GlacierStreets x = new GlacierStreets();
        c.due("lost(4, 1991)", x.lost(4, 1991), 1);
        c.due("lost(4, 1990)", x.lost(4, 1990), 2);
        c.due("lost(0, 1600)", x.lost(0, 1600), 400);
        c.due("lost(0, 1599)", x.lost(0, 1599), Checker.NONE);
        x.pace(0, 1);
        c.due("half of 1 is cut", x.lost(0, 1999), Checker.NONE);
        x.pace(1, 3);
        x.warm(1);
        c.due("half of 4 and half of 3", x.lost(1, 1997), 2);
        c.due("lost(9, 0)", x.lost(9, 0), Checker.BEYOND);
        c.due("lost(0, -1)", x.lost(0, -1), Checker.BEYOND);
        c.due("lost(0, 2000)", x.lost(0, 2000), Checker.BEYOND);
        Checker.pass(x, 599);
        // 67 feet in seven years; 29 times seven, then rests 4 to 2: 9, 9, 9, 13, 9, 9
        c.due("lost in 599", x.lost(4, 0), 209);
        x.years(1);
        c.due("lost in 600", x.lost(4, 1999), Checker.STATE);
        c.due("lost(0, 2000) in 600", x.lost(0, 2000), Checker.BEYOND);
    }
}
