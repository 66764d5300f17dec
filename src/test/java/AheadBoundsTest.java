/** The bounds of promises 16 to 19: ahead, over, cost, safe. */
public final class AheadBoundsTest {
    private static final Bounds b = new Bounds("AheadBoundsTest");

    public static void main(String[] args) {
        ahead();
        aheadAtTheEdge();
        over();
        overInLateYears();
        cost();
        costAtTheEdge();
        safe();
        safeAtTheTop();
        b.end();
    }

    private static void ahead() {
        b.question(16, "ahead");
        b.within("ahead(house, 0)", Towns::rich, (x, v) -> x.ahead(v, 0), 0, 154, 6, 2000);
        b.within("ahead(0, n) in rich", Towns::rich, (x, v) -> x.ahead(0, v), 0, 154, 200, 2000);
        b.within("ahead(0, n) in lane 0", Towns.one(0, 100), (x, v) -> x.ahead(0, v), 0, 100, 200, 500);
        b.beyond("ahead(house, 0) without houses", Towns::none, (x, v) -> x.ahead(v, 0), -1, 0);
        b.takes("to 999 from 799", Towns.still(799), x -> x.ahead(0, 200), 100);
        b.refuses("to 1000 from 800", Towns.still(800), x -> x.ahead(0, 200), Checker.STATE);
        b.takes("to 999 from 800", Towns.still(800), x -> x.ahead(0, 199), 100);
        b.takes("0 from 999", Towns.still(999), x -> x.ahead(0, 0), 100);
        b.refuses("to 1000 from 999", Towns.still(999), x -> x.ahead(0, 1), Checker.STATE);
        b.refuses("a GONE one to 1000", Towns.still(999), x -> x.ahead(2, 1), Checker.STATE);
        b.beyond("ahead of STATE, ahead(0, n)", Towns.still(999), (x, v) -> x.ahead(0, v), -1, 201);
        b.beyond("ahead of STATE, ahead(house, 1)", Towns.still(999), (x, v) -> x.ahead(v, 1), -1, 3);
    }

    private static void aheadAtTheEdge() {
        b.takes("a FOOT ahead of EDGE", Towns.one(4, 1981), x -> x.ahead(0, 1), 1999);
        b.takes("just at EDGE", Towns.one(4, 1982), x -> x.ahead(0, 1), 2000);
        b.takes("past EDGE", Towns.one(4, 1983), x -> x.ahead(0, 1), 2000);
        b.takes("no farther", Towns.one(4, 1983), x -> x.ahead(0, 2), 2000);
        Bounds.Town moved = Towns.with(Towns::rich, x -> x.edge(9999));
        b.takes("a GONE one stays where EDGE was", moved, x -> x.ahead(6, 200), 2000);
        b.takes("18, then 27, then 18", Towns.inSpring(Towns.one(4, 0)), x -> x.ahead(0, 3), 63);
        b.takes("18, then 27", Towns.inSpring(Towns.one(4, 0)), x -> x.ahead(0, 2), 45);
        b.takes("the first from YEAR 3 on", Towns.inSpring(Towns.one(4, 0)), x -> x.ahead(0, 1), 18);
    }

    /** A house in lane 0, which goes ten feet a year. */
    private static Bounds.Town tenAYear(int feet, int edge) {
        return x -> {
            x.pace(0, 10);
            x.house(0, 0, feet);
            x.edge(edge);
        };
    }

    private static void over() {
        b.question(17, "over");
        b.within("over(house)", Towns.two(4, 1982, 4, 1981), (x, v) -> x.over(v), 0, 1, 1, 2);
        b.beyond("over(house) in rich", Towns::rich, (x, v) -> x.over(v), -1, 7);
        b.beyond("over(house) without houses", Towns::none, (x, v) -> x.over(v), -1, 0);
        b.takes("in 199", tenAYear(0, 1990), x -> x.over(0), 199);
        b.takes("just in 200", tenAYear(0, 2000), x -> x.over(0), 200);
        b.refuses("a FOOT short in 200", tenAYear(0, 2001), x -> x.over(0), Checker.NONE);
        b.takes("that FOOT on", tenAYear(1, 2001), x -> x.over(0), 200);
        b.refuses("never", Towns.still(0), x -> x.over(0), Checker.NONE);
        int[][] spring = {{1982, 1}, {1981, 2}, {1955, 2}, {1954, 3}, {1937, 3}, {1936, 4}};
        for (int[] s : spring) {
            b.takes("18, 27, 18, 18 from " + s[0], Towns.inSpring(Towns.one(4, s[0])), x -> x.over(0), s[1]);
        }
    }

    private static void overInLateYears() {
        b.refuses("it is GONE", Towns::rich, x -> x.over(6), Checker.STATE);
        b.refuses("never from 799", Towns.still(799), x -> x.over(0), Checker.NONE);
        // 1900 feet by 60 a year
        b.takes("from 799", Towns.with(Towns.still(799), x -> x.pace(0, 60)), x -> x.over(0), 32);
        b.refuses("from 800", Towns.with(Towns.still(800), x -> x.pace(0, 60)), x -> x.over(0), Checker.STATE);
        b.refuses("ahead of NONE, from 800", Towns.still(800), x -> x.over(0), Checker.STATE);
        b.refuses("from 999", Towns.still(999), x -> x.over(0), Checker.STATE);
        b.refuses("a GONE one from 800", Towns.still(800), x -> x.over(2), Checker.STATE);
        b.beyond("ahead of STATE", Towns.still(800), (x, v) -> x.over(v), -1, 3);
    }

    private static void cost() {
        b.question(18, "cost");
        b.within("cost(n) of none", Towns::none, (x, v) -> x.cost(v), 1, 0, 60, 0);
        b.within("cost(n) in rich", Towns::rich, (x, v) -> x.cost(v), 1, 0, 60, 0);
        b.within("cost(n) of one", Towns.one(4, 1999), (x, v) -> x.cost(v), 1, 18, 60, 60 * 18);
        b.takes("to 999 from 939", Towns.still(939), x -> x.cost(60), 0);
        // each goes 3600 feet, and one may end at 1999
        Bounds.Town fast = Towns.with(Towns.still(939), x -> x.pace(0, 60));
        b.takes("to 999 from 939, two of 60 a year", fast, x -> x.cost(60), 3700 - 1999 + 3720 - 1999);
        b.refuses("to 1000 from 940", Towns.still(940), x -> x.cost(60), Checker.STATE);
        b.takes("to 999 from 940", Towns.still(940), x -> x.cost(59), 0);
        b.takes("to 999 from 998", Towns.still(998), x -> x.cost(1), 0);
        b.refuses("to 1000 from 999", Towns.still(999), x -> x.cost(1), Checker.STATE);
        b.beyond("ahead of STATE", Towns.still(999), (x, v) -> x.cost(v), 0, 61);
    }

    private static void costAtTheEdge() {
        b.takes("it ends one FOOT ahead of EDGE", Towns.one(4, 1981), x -> x.cost(1), 0);
        b.takes("it would be at EDGE", Towns.one(4, 1982), x -> x.cost(1), 1);
        b.takes("it would be past EDGE", Towns.one(4, 1983), x -> x.cost(1), 2);
        b.takes("all of a STEP in the second YEAR", Towns.one(4, 1981), x -> x.cost(2), 18);
        Bounds.Town gone = Towns.with(Towns.one(4, 1982), x -> x.years(1));
        b.takes("a GONE one costs nothing", gone, x -> x.cost(60), 0);
        int[] spring = {18, 45, 63};
        for (int n = 1; n <= 3; n++) {
            int years = n;
            b.takes("18, 27, 18", Towns.inSpring(Towns.one(4, 1999)), x -> x.cost(years), spring[n - 1]);
        }
        b.takes("in a full town", Towns::full, x -> x.cost(1), 0);
        Bounds.Town church = x -> x.house(3, 4, 1999);
        b.takes("a CHURCH in an even YEAR", church, x -> x.cost(1), 0);
        b.takes("a CHURCH in an odd one too", church, x -> x.cost(2), 13);
        Bounds.Town most = x -> {
            x.edge(100);
            x.pace(4, 60);
            x.warm(127);
            for (int h = 0; h < 12; h++) {
                x.house(4, 4, 99);
            }
        };
        b.within("the most", most, (x, v) -> x.cost(v), 1, 12 * 93, 60, 60 * 12 * 93);
    }

    private static void safe() {
        b.question(19, "safe");
        // year 3 of rich is warm: lane 4 goes 27, lane 0 goes 3, lane 8 goes 46
        b.within("safe(kind, 4, 1)", Towns::rich, (x, v) -> x.safe(v, 4, 1), 0, 1972, 5, 1986);
        b.within("safe(0, lane, 1)", Towns::rich, (x, v) -> x.safe(0, v, 1), 0, 1996, 8, 1953);
        b.within("safe(0, 0, n)", Towns::none, (x, v) -> x.safe(0, 0, v), 1, 1997, 60, 1879);
        b.takes("HOLD is 5", Towns::rich, x -> x.safe(1, 4, 1), 1999 - 22);
        b.takes("though there are twelve", Towns.houses(12), x -> x.safe(0, 4, 1), 1981);
        int[] spring = {1981, 1954, 1936};
        for (int n = 1; n <= 3; n++) {
            int years = n;
            b.takes("18, 27, 18", Towns.inSpring(Towns::none), x -> x.safe(0, 4, years), spring[n - 1]);
        }
        b.takes("to 999 from 939", Towns.still(939), x -> x.safe(0, 0, 60), 1999);
        b.refuses("to 1000 from 940", Towns.still(940), x -> x.safe(0, 0, 60), Checker.STATE);
        b.takes("to 999 from 940", Towns.still(940), x -> x.safe(0, 0, 59), 1999);
        b.takes("to 999 from 998", Towns.still(998), x -> x.safe(0, 0, 1), 1999);
        b.refuses("to 1000 from 999", Towns.still(999), x -> x.safe(0, 0, 1), Checker.STATE);
        b.beyond("ahead of STATE, kind", Towns.still(999), (x, v) -> x.safe(v, 0, 1), -1, 6);
        b.beyond("ahead of STATE, lane", Towns.still(999), (x, v) -> x.safe(0, v, 1), -1, 9);
        b.beyond("ahead of STATE, n", Towns.still(999), (x, v) -> x.safe(0, 0, v), 0, 61);
    }

    private static Bounds.Town shortIce(int pace, int year) {
        return x -> {
            x.edge(100);
            x.pace(4, pace);
            Checker.pass(x, year);
        };
    }

    private static void safeAtTheTop() {
        b.takes("EDGE less 1", shortIce(0, 0), x -> x.safe(0, 4, 60), 99);
        b.takes("99 FEET in 3 YEARS", shortIce(33, 0), x -> x.safe(0, 4, 3), 0);
        b.refuses("102 FEET in 3 YEARS", shortIce(34, 0), x -> x.safe(0, 4, 3), Checker.NONE);
        b.refuses("132 FEET in 4 YEARS", shortIce(33, 0), x -> x.safe(0, 4, 4), Checker.NONE);
        b.takes("50 FEET in a YEAR", shortIce(50, 0), x -> x.safe(0, 4, 1), 49);
        b.refuses("100 FEET in 2 YEARS", shortIce(50, 0), x -> x.safe(0, 4, 2), Checker.NONE);
        b.refuses("nowhere from 997", shortIce(50, 997), x -> x.safe(0, 4, 2), Checker.NONE);
        b.refuses("ahead of NONE", shortIce(50, 998), x -> x.safe(0, 4, 2), Checker.STATE);
        b.takes("a CHURCH in 998, that is even", shortIce(60, 998), x -> x.safe(3, 4, 1), 99);
        b.takes("a CHURCH in 997, that is odd", shortIce(60, 997), x -> x.safe(3, 4, 2), 44);
    }
}
