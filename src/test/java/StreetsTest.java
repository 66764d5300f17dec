/** Promises 20 to 24: beside, till, straight, when, lay. */
public final class StreetsTest {
    private static final Checker c = new Checker("StreetsTest");

    public static void main(String[] args) {
        beside();
        till();
        straight();
        when();
        lay();
        c.end();
    }

    private static void beside() {
        GlacierStreets x = new GlacierStreets();
        x.house(0, 4, 100);
        x.house(0, 4, 130);
        x.house(0, 4, 131);
        x.house(0, 3, 70);
        x.house(0, 5, 69);
        x.house(0, 5, 100);
        x.house(0, 6, 100);
        x.house(0, 4, 1999);
        c.due("beside(0)", x.beside(0), 1 << 1 | 1 << 3 | 1 << 5);
        c.due("beside(6)", x.beside(6), 1 << 5);
        c.due("beside(7)", x.beside(7), 0);
        c.due("beside(8)", x.beside(8), Checker.BEYOND);
        c.due("beside(-1)", x.beside(-1), Checker.BEYOND);
        x.years(1);
        c.due("beside of a gone one", x.beside(7), Checker.STATE);
        x.edge(2010);
        x.house(0, 4, 2000);
        c.due("a gone one is beside none", x.beside(8), 0);
    }

    private static void till() {
        GlacierStreets x = new GlacierStreets();
        x.house(0, 3, 100);
        x.house(0, 4, 100);
        x.house(0, 4, 101);
        x.house(0, 3, 111);
        x.house(0, 4, 1999);
        x.house(0, 6, 100);
        c.due("till(0, 1): 28, 32 apart", x.till(0, 1), 8);
        c.due("till(1, 0)", x.till(1, 0), 8);
        c.due("till(0, 3), both till the edge", x.till(0, 3), 135);
        c.due("till(1, 2)", x.till(1, 2), 106);
        c.due("till(0, 4)", x.till(0, 4), 0);
        c.due("till(1, 5)", x.till(1, 5), 0);
        c.due("till(1, 1)", x.till(1, 1), Checker.BEYOND);
        c.due("till(0, 6)", x.till(0, 6), Checker.BEYOND);
        c.due("till(6, 0)", x.till(6, 0), Checker.BEYOND);
        x.years(1);
        c.due("till with a gone one", x.till(4, 1), 0);
        GlacierStreets w = new GlacierStreets();
        w.warm(1 << 4);
        w.years(3);
        w.house(0, 3, 100);
        w.house(0, 4, 120);
        c.due("apart by 24 in 4, by 30 in 5, by 34 in 6", w.till(0, 1), 3);
        GlacierStreets y = new GlacierStreets();
        y.pace(0, 10);
        y.house(0, 0, 0);
        y.house(1, 0, 0);
        c.due("roped", y.till(0, 1), 7);
        y.hold(1, 0);
        c.due("both are gone in the 200th", y.till(0, 1), 200);
        y.edge(2001);
        c.due("both up to the 200th", y.till(0, 1), 201);
        Checker.pass(y, 799);
        c.due("till in 799", y.till(0, 1), 0);
        y.years(1);
        c.due("till in 800", y.till(0, 1), Checker.STATE);
        c.due("till of one in 800", y.till(0, 0), Checker.BEYOND);
    }

    private static void straight() {
        GlacierStreets x = new GlacierStreets();
        x.house(0, 3, 100);
        x.house(0, 4, 120);
        x.house(0, 5, 145);
        x.house(0, 5, 146);
        x.house(0, 3, 106);
        x.house(0, 3, 105);
        x.house(0, 7, 1000);
        c.due("20 and 25", x.straight(0b0000111, 0), 1);
        c.due("20 and 26", x.straight(0b0001011, 0), 0);
        c.due("one lane, 5 apart", x.straight(0b0100001, 0), 1);
        c.due("one lane, 6 apart", x.straight(0b0010001, 0), 0);
        c.due("20 and 15", x.straight(0b0100011, 0), 1);
        c.due("15 and 25 and 20", x.straight(0b0100111, 0), 0);
        c.due("no differences", x.straight(0b1000001, 0), 1);
        c.due("two lanes, one difference", x.straight(0b1000011, 0), 1);
        c.due("in a year: 24 and 21", x.straight(0b0000111, 1), 1);
        c.due("in two years: 28 and 17", x.straight(0b0000111, 2), 0);
        c.due("a lane alone", x.straight(1, 0), Checker.BEYOND);
        c.due("none", x.straight(0, 0), Checker.BEYOND);
        c.due("one that isn't there", x.straight(0b10000001, 0), Checker.BEYOND);
        c.due("below 0", x.straight(-1, 0), Checker.BEYOND);
        c.due("n 201", x.straight(3, 201), Checker.BEYOND);
        c.due("n -1", x.straight(3, -1), Checker.BEYOND);
        c.due("gone by then", x.straight(3, 200), 0);
        Checker.pass(x, 200);
        c.due("gone now", x.straight(3, 0), 0);
        Checker.pass(x, 700);
        c.due("in 900", x.straight(3, 99), 0);
        c.due("in 900", x.straight(3, 100), Checker.STATE);
        c.due("in 900", x.straight(1, 100), Checker.BEYOND);
    }

    private static void when() {
        GlacierStreets x = new GlacierStreets();
        x.pace(3, 10);
        x.pace(4, 11);
        x.pace(5, 10);
        x.house(0, 3, 165);
        x.house(0, 4, 100);
        x.house(0, 5, 165);
        // -65 and 65 now; each year one is a foot more, the other a foot less
        c.due("when: -2 and 3 only in 63 years", x.when(7), Checker.NONE);
        x.haul(0, 3);
        x.haul(2, 3);
        c.due("when: -2 and 2 in 60 years", x.when(7), 60);
        x.haul(0, 1);
        c.due("when: -1 and 3 in 60 years, -2 and 3 in 59... ", x.when(7), 59);
        c.due("when of two", x.when(3), 0);
        c.due("when of one", x.when(1), Checker.BEYOND);
        c.due("when of one that isn't there", x.when(9), Checker.BEYOND);
        GlacierStreets w = new GlacierStreets();
        w.warm(1 << 4);
        w.years(3);
        w.house(0, 3, 115);
        w.house(0, 4, 100);
        w.house(0, 5, 118);
        c.due("-15 and 18, -11 and 14, -5 and 8, -1 and 4", w.when(7), 3);
        x.edge(1000);
        x.years(50);
        x.years(50);
        c.due("when of gone ones", x.when(7), Checker.NONE);
        Checker.pass(x, 839);
        c.due("when in 939", x.when(7), Checker.NONE);
        x.years(1);
        c.due("when in 940", x.when(7), Checker.STATE);
        c.due("when of one in 940", x.when(2), Checker.BEYOND);
    }

    private static void lay() {
        GlacierStreets x = new GlacierStreets();
        x.house(0, 0, 10);
        x.house(0, 4, 1981);
        c.due("lay(0, 4, 0)", x.lay(0, 4, 0), 10);
        c.due("lay(0, 4, 1)", x.lay(0, 4, 1), -6);
        c.due("lay(0, 4, 60)", x.lay(0, 4, 60), 10 + 120 - 1080);
        c.due("lay(1, 0, 1)", x.lay(1, 0, 1), 1997);
        c.due("lay(1, 0, 2)", x.lay(1, 0, 2), Checker.STATE);
        x.warm(1 << 2);
        c.due("lay(0, 4, 10), 2 and 9 are warm", x.lay(0, 4, 10), 10 + 22 - 198);
        c.due("lay(2, 0, 0)", x.lay(2, 0, 0), Checker.BEYOND);
        c.due("lay(0, 9, 0)", x.lay(0, 9, 0), Checker.BEYOND);
        c.due("lay(0, 0, 61)", x.lay(0, 0, 61), Checker.BEYOND);
        c.due("lay(0, 0, -1)", x.lay(0, 0, -1), Checker.BEYOND);
        x.warm(0);
        x.pace(0, 0);
        Checker.pass(x, 940);
        c.due("lay(1, 0, 0) of a gone one", x.lay(1, 0, 0), Checker.STATE);
        c.due("lay(0, 8, 59) in 940", x.lay(0, 8, 59), 10 - 118);
        c.due("lay(0, 8, 60) in 940", x.lay(0, 8, 60), Checker.STATE);
    }
}
