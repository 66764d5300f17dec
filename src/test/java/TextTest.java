/** Promises 32 to 34: feed, wipe, town. */
public final class TextTest {
    private static final Checker c = new Checker("TextTest");

    public static void main(String[] args) {
        feed();
        wipe();
        goodTowns();
        faults();
        textsThatBreakOff();
        fullTowns();
        nothingChanges();
        c.end();
    }

    private static void feed() {
        GlacierStreets x = new GlacierStreets();
        c.due("feed(0, 0)", x.feed(0, 0), Checker.BEYOND);
        c.due("feed(0, 5)", x.feed(0, 5), Checker.BEYOND);
        c.due("feed(0, -1)", x.feed(0, -1), Checker.BEYOND);
        // the bytes above the lowest n are not taken
        c.due("feed ed", x.feed(0x78786564, 2), 2);
        c.due("feed ge9", x.feed(0x78676539, 3), 5);
        c.due("feed 99", x.feed(0x78783939, 2), 7);
        c.due("town", x.town(), 1);
        c.due("now(1)", x.now(1), 999);
        for (int i = 1; i <= 29; i++) {
            c.due("feed", x.feed(0x20202020, 4), 4 * i);
        }
        c.due("feed to 118", x.feed(0x20202020, 2), 118);
        c.due("feed 3 more", x.feed(0x20202020, 3), Checker.FULL);
        c.due("feed 5 more", x.feed(0x20202020, 5), Checker.BEYOND);
        c.due("feed 2 more", x.feed(0x20202020, 2), 120);
        c.due("feed 1 more", x.feed(32, 1), Checker.FULL);
        c.due("count(3)", x.count(3), 120);
        c.due("blanks alone end too early", x.town(), -121);
        c.due("feed(-1, 4): bytes without a sign", x.feed(-1, 4), 4);
        c.due("town", x.town(), -1);
    }

    private static void wipe() {
        GlacierStreets x = new GlacierStreets();
        x.feed(0, 3);
        c.due("wipe", x.wipe(), 3);
        c.due("count(3)", x.count(3), 0);
        c.due("wipe again", x.wipe(), 0);
        c.due("feed", x.feed(0, 1), 1);
    }

    private static void goodTowns() {
        GlacierStreets x = new GlacierStreets();
        c.due("kinds", Checker.town(x, "house 0 at 1;roped 1 at 2 hold 0;sledge 2 at 3;church 3 at 4 hold 99"), 4);
        c.due("the tape is empty then", x.count(3), 0);
        c.due("kinds", Checker.town(x, "  ferry8at5;deep7at6hold7 ; edge 9999;house 4 at 9998"), 4);
        int[] lanes = {0, 1, 2, 3, 8, 7, 4};
        int[] feet = {1, 2, 3, 4, 5, 6, 9998};
        int[] holds = {5, 0, 5, 99, 5, 7, 5};
        for (int h = 0; h < 7; h++) {
            c.due("kind of " + h, x.of(h, 0), h % 6);
            c.due("lane of " + h, x.of(h, 1), lanes[h]);
            c.due("feet of " + h, x.of(h, 2), feet[h]);
            c.due("hold of " + h, x.of(h, 3), holds[h]);
            c.due("gone of " + h, x.of(h, 4), 0);
        }
        c.due("warm", Checker.town(x, "warm 0 1 2 3 4 5 6"), 1);
        c.due("now(2)", x.now(2), 127);
        c.due("warm", Checker.town(x, "warm 0 6;pace 0 60;pace 8 00000000000000"), 3);
        c.due("now(2)", x.now(2), 65);
        c.due("pace(0)", x.pace(0, 1), 60);
        c.due("pace(8)", x.pace(8, 1), 0);
        c.due("stake", Checker.town(x, "stake 3 from 999 for 60 went 9999;stake 4 from 6 for 1 went 45"), 2);
        c.due("learnt(3)", x.learnt(3, 2), 0);
        c.due("learnt(4)", x.learnt(4, 0), 30);
        c.due("warm 6", Checker.town(x, "warm 6"), 1);
        c.due("now(2)", x.now(2), 64);
        c.due("the top, and nothing gone", Checker.town(x, "deep 0 at 0;stake 7 from 0 for 1 went 0"), 2);
        c.due("of(7, 2)", x.of(7, 2), 0);
        c.due("learnt(7)", x.learnt(7, 1), 0);
        c.due("an item twice", Checker.town(x, "warm 1;warm 2"), 2);
        c.due("now(2)", x.now(2), 4);
        GlacierStreets y = new GlacierStreets();
        y.house(0, 4, 1999);
        y.years(1);
        c.due("a gone house hinders no edge", Checker.town(y, "edge 100"), 1);
        c.due("now(1)", y.now(1), 100);
    }

    private static void fault(String text, int place) {
        GlacierStreets x = new GlacierStreets();
        x.house(0, 4, 150);
        c.due("'" + text + "'", Checker.town(x, text), -1 - place);
        c.due("'" + text + "' empties the tape", x.count(3), 0);
        c.due("'" + text + "' is no finding", x.status(-1), 0);
    }

    private static void faults() {
        fault("", 0);
        fault("   ", 3);
        fault(";", 0);
        fault("warm 1;", 7);
        fault("warm 1; ", 8);
        fault("warm 1;;warm 2", 7);
        fault("warm 1 warm 2", 7);
        fault("7", 0);
        fault("at 7", 0);
        fault("houses 4 at 7", 0);
        fault("hous 4 at 7", 0);
        fault("mouse 4 at 7", 0);
        fault("housez 4 at 7", 0);
        fault("house`4 at 7", 5);
        fault("house{4 at 7", 5);
        fault("house/4 at 7", 5);
        fault("house:4 at 7", 5);
        fault("warmedge 100", 0);
        fault("House 4 at 7", 0);
        fault("\thouse 4 at 7", 0);
        fault("warm 1\n", 6);
        fault("warm 1.", 6);
        fault("edge", 4);
        fault("edge ", 5);
        fault("edge 99", 5);
        fault("edge 10000", 5);
        fault("edge 42949672960000000500", 5);
        fault("edge 150", 5);
        fault("edge 149", 5);
        fault("house 4 at 300;edge 300", 20);
        fault("edge at", 5);
        fault("edge 200 300", 9);
        fault("edge 2 000", 5);
        fault("pace 9 1", 5);
        fault("pace 1 61", 7);
        fault("pace 1", 6);
        fault("pace 1;", 6);
        fault("warm", 4);
        fault("warm;", 4);
        fault("warm 7", 5);
        fault("warm 1 1", 7);
        fault("warm 2 1", 7);
        fault("warm 0 1 2 3 4 5 6 6", 19);
        fault("warm 5 7", 7);
        fault("house 9 at 0", 6);
        fault("house 4 4", 8);
        fault("house 4 on 4", 8);
        fault("house 4 at 2000", 11);
        fault("edge 1000;house 4 at 1000", 21);
        fault("house 4 at", 10);
        fault("house 4 at 5 hold", 17);
        fault("house 4 at 5 hold 100", 18);
        fault("house 4 at 5 hole 10", 13);
        fault("house 4 at 5 hold 10 hold 10", 21);
        fault("house4at5-hold10", 9);
        fault("stake 9 from 0 for 1 went 0", 6);
        fault("stake 8 for", 8);
        fault("stake 8 from 1000 for 1 went 0", 13);
        fault("stake 8 from 999 from", 17);
        fault("stake 8 from 999 for 0 went 0", 21);
        fault("stake 8 from 999 for 61 went 0", 21);
        fault("stake 8 from 999 for 60 at 0", 24);
        fault("stake 8 from 999 for 60 went 10000", 29);
        fault("stake 8 from 999 for 60 went", 28);
    }

    /** Ahead of each token but the first: no text ends there, no item does, and no strange byte stands there. */
    private static void textsThatBreakOff() {
        String[] texts = {"edge 300", "pace 3 7", "warm 3", "deep 3 at 7", "stake 3 from 1 for 2 went 3"};
        for (String text : texts) {
            for (int at = text.indexOf(' '); at >= 0; at = text.indexOf(' ', at + 1)) {
                String begun = text.substring(0, at);
                fault(begun, at);
                fault(begun + " ", at + 1);
                fault(begun + ";" + text, at);
                fault(begun + " ?" + text.substring(at), at + 1);
                fault(begun + " edge" + text.substring(at), at + 1);
                fault(begun + " 10000" + text.substring(at), at + 1);
            }
        }
        fault("deep 3 at 7 hold;warm 1", 16);
    }

    private static void fullTowns() {
        GlacierStreets x = new GlacierStreets();
        for (int h = 0; h < 11; h++) {
            x.house(0, 0, h);
        }
        c.due("a 13th house is at fault", Checker.town(x, "house 0 at 3 ; deep 0 at 9"), -1 - 15);
        c.due("count(0)", x.count(0), 11);
        c.due("a 12th is not", Checker.town(x, "house 0 at 3"), 1);
        c.due("count(0)", x.count(0), 12);
        for (int s = 0; s < 9; s++) {
            x.stake(0, 0, 1, 2);
        }
        String stake = "stake 0 from 0 for 1 went 2";
        c.due("an 11th stake is at fault", Checker.town(x, stake + ";" + stake), -1 - 28);
        c.due("count(2)", x.count(2), 9);
        c.due("a 10th is not", Checker.town(x, stake), 1);
        c.due("count(2)", x.count(2), 10);
    }

    private static void nothingChanges() {
        GlacierStreets x = new GlacierStreets();
        String good = "edge 3000;pace 4 9;warm 2;house 4 at 2500;stake 4 from 0 for 1 went 1;";
        c.due("a fault at the end", Checker.town(x, good + "edg"), -1 - good.length());
        c.due("now(1)", x.now(1), 2000);
        c.due("now(2)", x.now(2), 0);
        c.due("goes(4, 0)", x.goes(4, 0), 18);
        c.due("count(0)", x.count(0), 0);
        c.due("count(2)", x.count(2), 0);
        x.house(1, 3, 77);
        x.deed(0, 3);
        x.years(3);
        c.due("good", Checker.town(x, "pace 4 9"), 1);
        c.due("what was there stays", x.of(0, 2), 77 + 3 * 9);
        c.due("deeds too", x.deedOf(0, 1), 80 + 3 * 14);
        c.due("and the year", x.now(0), 3);
    }
}
