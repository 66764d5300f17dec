/** Promises 8 to 15: house, of, hold, as, turn, haul, years, now. */
public final class HousesTest {
    private static final Checker c = new Checker("HousesTest");

    public static void main(String[] args) {
        house();
        of();
        steps();
        hold();
        as();
        turn();
        haul();
        years();
        now();
        c.end();
    }

    private static void house() {
        GlacierStreets x = new GlacierStreets();
        int[][] wrong = {{-1, 0, 0}, {6, 0, 0}, {0, -1, 0}, {0, 9, 0}, {0, 0, -1}, {0, 0, 2000}};
        for (int[] w : wrong) {
            c.due("house(" + w[0] + ", " + w[1] + ", " + w[2] + ")", x.house(w[0], w[1], w[2]), Checker.BEYOND);
        }
        for (int h = 0; h < 12; h++) {
            c.due("house " + h, x.house(h % 6, h % 9, 1999 - h), h);
        }
        c.due("a 13th house", x.house(0, 0, 0), Checker.FULL);
        c.due("a wrong 13th house", x.house(0, 0, 2000), Checker.BEYOND);
        c.due("count(0)", x.count(0), 12);
    }

    private static void of() {
        GlacierStreets x = new GlacierStreets();
        x.house(3, 7, 55);
        c.due("of(0, 0)", x.of(0, 0), 3);
        c.due("of(0, 1)", x.of(0, 1), 7);
        c.due("of(0, 2)", x.of(0, 2), 55);
        c.due("of(0, 3)", x.of(0, 3), 5);
        c.due("of(0, 4)", x.of(0, 4), 0);
        c.due("of(0, 5)", x.of(0, 5), 0);
        c.due("of(0, 6)", x.of(0, 6), Checker.BEYOND);
        c.due("of(0, -1)", x.of(0, -1), Checker.BEYOND);
        c.due("of(1, 0)", x.of(1, 0), Checker.BEYOND);
        c.due("of(-1, 0)", x.of(-1, 0), Checker.BEYOND);
        x.house(0, 4, 1999);
        x.years(1);
        c.due("of(1, 4)", x.of(1, 4), 1);
        c.due("of(1, 2)", x.of(1, 2), 2000);
        c.due("of(1, 5) of a gone one", x.of(1, 5), 0);
    }

    private static void steps() {
        GlacierStreets x = new GlacierStreets();
        int[] kinds = {0, 1, 2, 3, 4, 5};
        for (int kind : kinds) {
            x.house(kind, 3, 0);
            x.house(kind, 0, 0);
        }
        // by kind: lane 3 goes 14, lane 4 goes 18; lane 0 goes 2, lane 1 goes 6
        int[] even = {14, 2, 9, 0, 18, 6, 0, 0, 21, 9, 7, 1};
        int[] odd = {14, 2, 9, 0, 18, 6, 9, 0, 21, 9, 7, 1};
        steps(x, "even", even);
        x.years(1);
        steps(x, "odd", odd);
        x.warm(1 << 1);
        int[] warm = {21, 3, 16, 0, 27, 9, 16, 0, 30, 12, 10, 1};
        steps(x, "warm", warm);
        GlacierStreets y = new GlacierStreets();
        y.house(2, 4, 0);
        y.house(2, 5, 0);
        y.house(2, 8, 0);
        y.house(4, 4, 0);
        y.pace(3, 60);
        y.pace(6, 60);
        c.due("a sledge in lane 4 looks nowhere", y.of(0, 5), 18);
        c.due("a sledge in lane 5 looks at 4", y.of(1, 5), 18);
        c.due("a sledge in lane 8 looks at 7", y.of(2, 5), 6);
        c.due("a ferry in lane 4", y.of(3, 5), 21);
        y.pace(4, 1);
        c.due("a sledge keeps its own if that is more", y.of(1, 5), 14);
    }

    private static void steps(GlacierStreets x, String when, int[] due) {
        for (int h = 0; h < due.length; h++) {
            c.due("step of " + h + ", " + when, x.of(h, 5), due[h]);
        }
    }

    private static void hold() {
        GlacierStreets x = new GlacierStreets();
        x.house(1, 4, 0);
        x.house(0, 4, 1999);
        c.due("hold(0, 100)", x.hold(0, 100), Checker.BEYOND);
        c.due("hold(0, -1)", x.hold(0, -1), Checker.BEYOND);
        c.due("hold(2, 0)", x.hold(2, 0), Checker.BEYOND);
        c.due("hold(-1, 0)", x.hold(-1, 0), Checker.BEYOND);
        c.due("hold(0, 17)", x.hold(0, 17), 5);
        c.due("step", x.of(0, 5), 1);
        c.due("hold(0, 99)", x.hold(0, 99), 17);
        c.due("step is 0 at least", x.of(0, 5), 0);
        c.due("hold(0, 0)", x.hold(0, 0), 99);
        c.due("step without hold", x.of(0, 5), 18);
        x.years(1);
        c.due("hold of a gone one", x.hold(1, 3), 5);
        c.due("of(1, 3)", x.of(1, 3), 3);
    }

    private static void as() {
        GlacierStreets x = new GlacierStreets();
        boolean[][] is = {
            {true, false, false, false, false, false},
            {true, true, false, false, false, false},
            {true, false, true, false, false, false},
            {true, true, false, true, false, false},
            {true, false, true, false, true, false},
            {true, false, false, false, false, true},
        };
        for (int kind = 0; kind < 6; kind++) {
            x.house(kind, 4, 10 * kind);
        }
        for (int h = 0; h < 6; h++) {
            for (int kind = 0; kind < 6; kind++) {
                c.due("as(" + h + ", " + kind + ")", x.as(h, kind), is[h][kind] ? 10 * h : Checker.KIND);
            }
        }
        c.due("as(0, 6)", x.as(0, 6), Checker.BEYOND);
        c.due("as(0, -1)", x.as(0, -1), Checker.BEYOND);
        c.due("as(6, 0)", x.as(6, 0), Checker.BEYOND);
    }

    private static void turn() {
        GlacierStreets x = new GlacierStreets();
        x.house(0, 4, 7);
        c.due("turn(0, 5)", x.turn(0, 5), 0);
        c.due("step", x.of(0, 5), 9);
        c.due("turn(0, 5) again", x.turn(0, 5), 5);
        c.due("turn(0, 3)", x.turn(0, 3), 5);
        c.due("as(0, 1)", x.as(0, 1), 7);
        c.due("turn(0, 6)", x.turn(0, 6), Checker.BEYOND);
        c.due("turn(0, -1)", x.turn(0, -1), Checker.BEYOND);
        c.due("turn(1, 0)", x.turn(1, 0), Checker.BEYOND);
    }

    private static void haul() {
        GlacierStreets x = new GlacierStreets();
        x.house(0, 4, 100);
        x.house(0, 4, 1990);
        c.due("haul(0, 0)", x.haul(0, 0), Checker.BEYOND);
        c.due("haul(0, 10000)", x.haul(0, 10000), Checker.BEYOND);
        c.due("haul(2, 1)", x.haul(2, 1), Checker.BEYOND);
        c.due("haul(0, 40)", x.haul(0, 40), 40);
        c.due("feet", x.of(0, 2), 60);
        c.due("haul(0, 61)", x.haul(0, 61), 60);
        c.due("feet", x.of(0, 2), 0);
        c.due("haul(0, 9999)", x.haul(0, 9999), 0);
        x.years(1);
        c.due("haul of a gone one", x.haul(1, 1), Checker.STATE);
        c.due("haul of a gone one by 0", x.haul(1, 0), Checker.BEYOND);
    }

    private static void years() {
        GlacierStreets x = new GlacierStreets();
        x.house(0, 4, 1982);
        x.house(0, 4, 1981);
        x.house(3, 4, 1999);
        c.due("years(0)", x.years(0), Checker.BEYOND);
        c.due("years(51)", x.years(51), Checker.BEYOND);
        c.due("years(1), one just reaches the edge", x.years(1), 1);
        c.due("gone", x.of(0, 4), 1);
        c.due("one foot ahead of the edge", x.of(1, 2), 1999);
        c.due("a church stands in an even year", x.of(2, 2), 1999);
        c.due("years(1)", x.years(1), 2);
        c.due("feet are the edge", x.of(1, 2), 2000);
        c.due("years(1) with none left", x.years(1), 0);
        Checker.pass(x, 990);
        c.due("now(0)", x.now(0), 993);
        c.due("years(7)", x.years(7), Checker.STATE);
        c.due("years(51) at the end", x.years(51), Checker.BEYOND);
        c.due("years(6)", x.years(6), 0);
        c.due("now(0)", x.now(0), 999);
        c.due("years(1) at the end", x.years(1), Checker.STATE);
    }

    private static void now() {
        GlacierStreets x = new GlacierStreets();
        x.house(0, 4, 1999);
        x.house(0, 4, 0);
        c.due("now(3)", x.now(3), 2);
        x.years(3);
        x.edge(3000);
        x.warm(9);
        c.due("now(0)", x.now(0), 3);
        c.due("now(1)", x.now(1), 3000);
        c.due("now(2)", x.now(2), 9);
        c.due("now(3)", x.now(3), 1);
        c.due("now(4)", x.now(4), Checker.BEYOND);
        c.due("now(-1)", x.now(-1), Checker.BEYOND);
    }
}
