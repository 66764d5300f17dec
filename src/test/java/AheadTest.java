/** Promises 16 to 19: ahead, over, cost, safe. */
public final class AheadTest {
    private static final Checker c = new Checker("AheadTest");

    public static void main(String[] args) {
        ahead();
        over();
        cost();
        safe();
        c.end();
    }

    private static void ahead() {
        GlacierStreets x = new GlacierStreets();
        x.house(0, 4, 100);
        x.house(3, 4, 1990);
        c.due("ahead(0, 0)", x.ahead(0, 0), 100);
        c.due("ahead(0, 3)", x.ahead(0, 3), 154);
        c.due("ahead(0, 200)", x.ahead(0, 200), 2000);
        c.due("ahead(1, 1)", x.ahead(1, 1), 1990);
        c.due("ahead(1, 2)", x.ahead(1, 2), 2000);
        c.due("nothing changes", x.of(0, 2), 100);
        c.due("nothing changes", x.of(1, 4), 0);
        c.due("nothing changes", x.now(0), 0);
        c.due("ahead(0, -1)", x.ahead(0, -1), Checker.BEYOND);
        c.due("ahead(0, 201)", x.ahead(0, 201), Checker.BEYOND);
        c.due("ahead(2, 0)", x.ahead(2, 0), Checker.BEYOND);
        x.warm(2);
        c.due("ahead(0, 2) with a warm year", x.ahead(0, 2), 145);
        x.years(2);
        x.edge(5000);
        c.due("ahead of a gone one", x.ahead(1, 50), 2000);
        Checker.pass(x, 900);
        c.due("ahead(0, 97)", x.ahead(0, 97), 5000);
        c.due("ahead(0, 98)", x.ahead(0, 98), Checker.STATE);
        c.due("ahead(0, 201)", x.ahead(0, 201), Checker.BEYOND);
    }

    private static void over() {
        GlacierStreets x = new GlacierStreets();
        x.house(0, 4, 1982);
        x.house(0, 4, 1981);
        x.pace(0, 10);
        x.house(0, 0, 0);
        x.pace(1, 0);
        x.house(0, 1, 1999);
        c.due("over(0)", x.over(0), 1);
        c.due("over(1)", x.over(1), 2);
        c.due("over(2), just in the 200th", x.over(2), 200);
        x.edge(2001);
        c.due("over(2), in the 201st", x.over(2), Checker.NONE);
        c.due("over(3)", x.over(3), Checker.NONE);
        c.due("over(4)", x.over(4), Checker.BEYOND);
        c.due("over(-1)", x.over(-1), Checker.BEYOND);
        x.years(2);
        c.due("over of a gone one", x.over(0), Checker.STATE);
        GlacierStreets w = new GlacierStreets();
        w.warm(1 << 1 | 1 << 4);
        w.house(3, 4, 1950);
        w.years(3);
        c.due("a church at 1972 from year 3 on: 13, 0, 13, 0, 13", w.over(0), 5);
        w.haul(0, 1);
        c.due("a foot less", w.over(0), 5);
        Checker.pass(x, 797);
        c.due("now(0)", x.now(0), 799);
        c.due("over(3) in 799", x.over(3), Checker.NONE);
        x.years(1);
        c.due("over(3) in 800", x.over(3), Checker.STATE);
        c.due("over(4) in 800", x.over(4), Checker.BEYOND);
    }

    private static void cost() {
        GlacierStreets x = new GlacierStreets();
        c.due("cost(60) of none", x.cost(60), 0);
        x.house(0, 4, 1981);
        c.due("cost(1), it ends a foot ahead of the edge", x.cost(1), 0);
        c.due("cost(2)", x.cost(2), 18);
        x.house(0, 4, 1982);
        c.due("cost(1) of two", x.cost(1), 1);
        x.house(3, 4, 1999);
        c.due("cost(1) with a church", x.cost(1), 1);
        c.due("cost(2) with a church", x.cost(2), 18 + 19 + 13);
        c.due("nothing changes", x.of(1, 2), 1982);
        GlacierStreets w = new GlacierStreets();
        w.warm(1 << 4);
        w.house(3, 4, 1900);
        w.years(3);
        w.house(0, 4, 1999);
        w.haul(0, 13);
        c.due("cost(1) in 3", w.cost(1), 18);
        c.due("cost(3) in 3: 18, 27, 18", w.cost(3), 63);
        c.due("cost(0)", x.cost(0), Checker.BEYOND);
        c.due("cost(61)", x.cost(61), Checker.BEYOND);
        x.years(2);
        c.due("cost of gone ones", x.cost(60), 0);
        Checker.pass(x, 938);
        c.due("cost(59) in 940", x.cost(59), 0);
        c.due("cost(60) in 940", x.cost(60), Checker.STATE);
        c.due("cost(61) in 940", x.cost(61), Checker.BEYOND);
    }

    private static void safe() {
        GlacierStreets x = new GlacierStreets();
        c.due("safe(0, 4, 1)", x.safe(0, 4, 1), 1981);
        c.due("safe(1, 4, 1)", x.safe(1, 4, 1), 1986);
        c.due("safe(2, 3, 1)", x.safe(2, 3, 1), 1981);
        c.due("safe(3, 4, 1)", x.safe(3, 4, 1), 1999);
        c.due("safe(3, 4, 2)", x.safe(3, 4, 2), 1986);
        c.due("safe(4, 3, 1)", x.safe(4, 3, 1), 1978);
        c.due("safe(5, 3, 3)", x.safe(5, 3, 3), 1978);
        x.edge(541);
        c.due("safe(0, 4, 30), the top", x.safe(0, 4, 30), 0);
        x.edge(540);
        c.due("safe(0, 4, 30), nowhere", x.safe(0, 4, 30), Checker.NONE);
        c.due("safe(6, 0, 1)", x.safe(6, 0, 1), Checker.BEYOND);
        c.due("safe(0, 9, 1)", x.safe(0, 9, 1), Checker.BEYOND);
        c.due("safe(0, 0, 0)", x.safe(0, 0, 0), Checker.BEYOND);
        c.due("safe(0, 0, 61)", x.safe(0, 0, 61), Checker.BEYOND);
        Checker.pass(x, 940);
        c.due("safe(0, 0, 59) in 940", x.safe(0, 0, 59), 539 - 118);
        c.due("safe(0, 4, 60) in 940", x.safe(0, 4, 60), Checker.STATE);
        GlacierStreets w = new GlacierStreets();
        w.warm(1 << 4);
        w.years(3);
        c.due("safe(0, 4, 3) in 3", w.safe(0, 4, 3), 1999 - 18 - 27 - 18);
        c.due("safe(3, 4, 3) in 3", w.safe(3, 4, 3), 1999 - 13 - 13);
        c.due("safe(3, 4, 1) in 3", w.safe(3, 4, 1), 1999 - 13);
        c.due("a house finds its safe place", x.house(0, 4, x.safe(0, 4, 10)), 0);
        c.due("over", x.ahead(0, 10), 539);
    }
}
