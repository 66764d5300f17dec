/** The bounds of promises 32 to 34: feed, wipe, town. */
public final class TextBoundsTest {
    private static final Bounds b = new Bounds("TextBoundsTest");

    public static void main(String[] args) {
        feed();
        feedBytes();
        wipe();
        endsOfTheText();
        signsOfTheText();
        numbersOfTheText();
        edges();
        edgesAndHouses();
        paces();
        warms();
        housesOfTheText();
        feetOfTheText();
        holds();
        stakes();
        whenFull();
        townsThatStay();
        townsThatCome();
        b.end();
    }

    /** So many blanks on the tape. */
    private static Bounds.Town tape(int many) {
        return x -> Checker.feed(x, " ".repeat(many));
    }

    private static void feed() {
        b.act(32, "feed");
        b.within("feed(0, n)", Towns::none, (x, v) -> x.feed(0, v), 1, 1, 4, 4);
        b.within("feed(0, n) in rich", Towns::rich, (x, v) -> x.feed(0, v), 1, 7, 4, 10);
        for (int n = 1; n <= 4; n++) {
            int more = n;
            b.takes(n + " to 120", tape(120 - n), x -> x.feed(0, more), 120);
            b.takes(n + " to 119", tape(119 - n), x -> x.feed(0, more), 119);
            b.refuses(n + " to 121", tape(121 - n), x -> x.feed(0, more), Checker.FULL);
            b.refuses(n + " to 120 and that", tape(120), x -> x.feed(0, more), Checker.FULL);
        }
        b.beyond("ahead of FULL", tape(120), (x, v) -> x.feed(0, v), 0, 5, -1);
    }

    private static void feedBytes() {
        String edge = "edge 101";
        b.then("one at a time, the lowest", Towns::none, x -> {
            for (int i = 0; i < edge.length(); i++) {
                x.feed(0x20202000 | edge.charAt(i), 1);
            }
            x.town();
        }, x -> x.now(1), 101);
        b.then("two at a time, the highest first", Towns::none, x -> {
            x.feed(0x7A7A6564, 2);
            x.feed(0x7A7A6765, 2);
            x.feed(0x7A7A2031, 2);
            x.feed(0x7A7A3031, 2);
            x.town();
        }, x -> x.now(1), 101);
        b.then("three at a time", Towns::none, x -> {
            x.feed(0x7A656467, 3);
            x.feed(0x7A652031, 3);
            x.feed(0x7A303120, 3);
            x.town();
        }, x -> x.now(1), 101);
        b.then("four at a time", Towns::none, x -> {
            x.feed(0x65646765, 4);
            x.feed(0x20313031, 4);
            x.town();
        }, x -> x.now(1), 101);
        b.then("a byte with its highest bit", Towns::none, x -> x.feed(0xFF656467, 4), x -> x.town(), -1);
        b.then("behind what is there", Towns::rich, x -> x.feed('1', 1), x -> x.town(), -1 - 5);
    }

    private static void wipe() {
        b.act(33, "wipe");
        b.takes("empty", Towns::none, x -> x.wipe(), 0);
        b.takes("one byte", tape(1), x -> x.wipe(), 1);
        b.takes("full", tape(120), x -> x.wipe(), 120);
        b.takes("six bytes", Towns::rich, x -> x.wipe(), 6);
        b.then("empty then", tape(120), x -> x.wipe(), x -> x.count(3), 0);
        b.then("room then", tape(120), x -> x.wipe(), x -> x.feed(0, 4), 4);
        b.then("twice", tape(120), x -> x.wipe(), x -> x.wipe(), 0);
        b.alike("nothing else changes", Towns.with(Towns::rich, x -> x.wipe()), Towns.with(Towns::rich, x -> {
            x.wipe();
            x.feed(' ', 1);
            x.wipe();
        }));
        b.then("what was there is not read again", Towns::rich, x -> {
            x.wipe();
            x.feed('w', 1);
        }, x -> x.town(), -1);
    }

    private static void endsOfTheText() {
        b.act(34, "town");
        b.fault("", Towns::rich, 0);
        b.fault(" ", Towns::rich, 1);
        b.fault(" ".repeat(120), Towns::rich, 120);
        b.fault(";", Towns::rich, 0);
        b.fault("warm 1;", Towns::rich, 7);
        b.fault("warm 1; ", Towns::rich, 8);
        b.fault(";warm 1", Towns::rich, 0);
        b.fault("warm 1;;warm 2", Towns::rich, 7);
        b.text("warm 1;warm 2", Towns::rich, 2);
        b.text(" ".repeat(114) + "warm 1", Towns::rich, 1);
        b.text("warm 1" + " ".repeat(114), Towns::rich, 1);
        b.fault(" ".repeat(115) + "warm ", Towns::rich, 120);
        b.fault(" ".repeat(119) + "w", Towns::rich, 119);
        b.text("warm0;".repeat(19) + "warm0", Towns::rich, 20);
        b.fault("warm0;".repeat(20), Towns::rich, 120);
        b.fault("warm0;".repeat(19) + "warm7", Towns::rich, 118);
    }

    private static void signsOfTheText() {
        for (char c : new char[] {0, 9, 10, 13, 31, 33, '/', ':', '<', '@', 'A', 'Z', '[', '`', '{', 127, 128, 160, 255}) {
            b.fault(c + "warm 1", Towns::rich, 0);
            b.fault("warm" + c + "1", Towns::rich, 4);
            b.fault("warm 1" + c, Towns::rich, 6);
            b.fault("warm 1;" + c, Towns::rich, 7);
        }
        b.text("warm1", Towns::rich, 1);
        b.text("sledge0at0hold0;ferry8at1", Towns::rich, 2);
        b.fault("warma 1", Towns::rich, 0);
        b.fault("awarm 1", Towns::rich, 0);
        b.fault("war 1", Towns::rich, 0);
        b.fault("zwarm 1", Towns::rich, 0);
        b.fault("warmz 1", Towns::rich, 0);
        b.fault("wa rm 1", Towns::rich, 0);
        for (String text : new String[] {"edge 2000", "pace 0 0", "warm 1", "stake 0 from 0 for 1 went 0"}) {
            for (int i = 0; i < text.indexOf(' '); i++) {
                b.fault(text.substring(0, i) + "x" + text.substring(i + 1), Towns::rich, 0);
            }
        }
        b.fault("deep 0 xt 0", Towns::rich, 7);
        b.fault("deep 0 ax 0", Towns::rich, 7);
        b.fault("deep 0 at 0 xold 5", Towns::rich, 12);
        b.fault("stake 0 xrom 0 for 1 went 0", Towns::rich, 8);
        b.fault("stake 0 from 0 xor 1 went 0", Towns::rich, 15);
        b.fault("stake 0 from 0 for 1 xent 0", Towns::rich, 21);
        b.fault("warm 1 warm 2", Towns::rich, 7);
        b.fault("1", Towns::rich, 0);
        b.fault("at", Towns::rich, 0);
        b.fault("hold 5", Towns::rich, 0);
        b.fault("warm 1;hold 5", Towns::rich, 7);
    }

    private static void numbersOfTheText() {
        b.text("edge 9999", Towns::rich, 1);
        b.fault("edge 10000", Towns::rich, 5);
        b.text("edge 09999", Towns::rich, 1);
        b.fault("edge 010000", Towns::rich, 5);
        b.text("edge " + "0".repeat(111) + "9999", Towns::rich, 1);
        b.fault("edge " + "0".repeat(110) + "10000", Towns::rich, 5);
        b.fault("edge " + "9".repeat(115), Towns::rich, 5);
        // these would be 2000 again if they wrapped around
        b.fault("edge 4294969296", Towns::rich, 5);
        b.fault("edge 18446744073709553616", Towns::rich, 5);
        b.fault("warm 4294967297", Towns::rich, 5);
        b.text("warm 00 01 006", Towns::rich, 1);
        b.fault("warm 1 10000", Towns::rich, 7);
        b.fault("warm 1 4294967298", Towns::rich, 7);
    }

    private static void edges() {
        b.fault("edge", Towns::rich, 4);
        b.fault("edge;", Towns::rich, 4);
        b.fault("edge at", Towns::rich, 5);
        b.fault("edge 0", Towns::none, 5);
        b.fault("edge 99", Towns::none, 5);
        b.text("edge 100", Towns::none, 1);
        b.text("edge 101", Towns::none, 1);
        b.text("edge 9998", Towns::none, 1);
        b.text("edge 9999", Towns::none, 1);
        b.fault("edge 10000", Towns::none, 5);
        b.fault("edge 200 300", Towns::none, 9);
        b.fault("edge 200 at", Towns::none, 9);
        comes("edge 100", x -> x.now(1), 100);
        comes("edge 9999", x -> x.now(1), 9999);
        comes("edge 300;edge 400", x -> x.now(1), 400);
    }

    /** What is seen when a text has come to a new town. */
    private static void comes(String text, Bounds.Call look, long due) {
        b.then("'" + text + "' then", Towns::none, x -> Checker.town(x, text), look, due);
    }

    private static void edgesAndHouses() {
        b.fault("edge 149", Towns.one(4, 150), 5);
        b.fault("edge 150", Towns.one(4, 150), 5);
        b.text("edge 151", Towns.one(4, 150), 1);
        b.text("edge 100", Towns.one(4, 99), 1);
        b.fault("edge 100", Towns.one(4, 100), 5);
        Bounds.Town gone = Towns.with(Towns.one(4, 1999), x -> x.years(1));
        b.text("edge 1999", gone, 1);
        b.text("edge 2000", gone, 1);
        b.text("edge 100", gone, 1);
        b.fault("house 4 at 300;edge 299", Towns::none, 20);
        b.fault("house 4 at 300;edge 300", Towns::none, 20);
        b.text("house 4 at 300;edge 301", Towns::none, 2);
        b.fault("edge 3000;house 0 at 2999;edge 2999", Towns::none, 31);
        b.text("edge 3000;house 0 at 2999;edge 3000", Towns::none, 3);
    }

    private static void paces() {
        b.fault("pace", Towns::rich, 4);
        b.fault("pace;", Towns::rich, 4);
        b.fault("pace at", Towns::rich, 5);
        b.fault("pace 0", Towns::rich, 6);
        b.fault("pace 0;", Towns::rich, 6);
        b.fault("pace 0 at", Towns::rich, 7);
        b.text("pace 0 0", Towns::rich, 1);
        b.text("pace 8 60", Towns::rich, 1);
        b.fault("pace 9 60", Towns::rich, 5);
        b.fault("pace 8 61", Towns::rich, 7);
        b.fault("pace 9 61", Towns::rich, 5);
        b.fault("pace 8 60 1", Towns::rich, 10);
        comes("pace 0 0", x -> x.goes(0, 0), 0);
        comes("pace 8 60", x -> x.goes(8, 0), 60);
        comes("pace 8 60;pace 8 1", x -> x.goes(8, 0), 1);
        comes("pace 8 60", x -> x.goes(7, 0), 6);
    }

    private static void warms() {
        b.fault("warm", Towns::rich, 4);
        b.fault("warm;", Towns::rich, 4);
        b.fault("warm at", Towns::rich, 5);
        b.text("warm 0", Towns::rich, 1);
        b.text("warm 6", Towns::rich, 1);
        b.fault("warm 7", Towns::rich, 5);
        b.fault("warm 0 7", Towns::rich, 7);
        b.fault("warm 6 7", Towns::rich, 7);
        b.fault("warm 6 6", Towns::rich, 7);
        b.fault("warm 0 0", Towns::rich, 7);
        b.fault("warm 1 0", Towns::rich, 7);
        b.text("warm 0 1", Towns::rich, 1);
        b.text("warm 0 6", Towns::rich, 1);
        b.fault("warm 0 6 5", Towns::rich, 9);
        b.fault("warm 3 5 4", Towns::rich, 9);
        b.fault("warm 1 at", Towns::rich, 7);
        b.text("warm 0 1 2 3 4 5 6", Towns::rich, 1);
        b.fault("warm 0 1 2 3 4 5 6 0", Towns::rich, 19);
        b.fault("warm 0 1 2 3 4 5 6 7", Towns::rich, 19);
        comes("warm 0 1 2 3 4 5 6", x -> x.now(2), 127);
        comes("warm 0", x -> x.now(2), 1);
        comes("warm 6", x -> x.now(2), 64);
        comes("warm 1 2;warm 6", x -> x.now(2), 64);
    }

    private static void housesOfTheText() {
        String[] names = {"house", "roped", "sledge", "church", "ferry", "deep"};
        for (int kind = 0; kind <= 5; kind++) {
            String name = names[kind];
            int n = name.length();
            comes(name + " 8 at 7", x -> x.of(0, 0), kind);
            comes(name + " 8 at 7", x -> x.of(0, 1), 8);
            comes(name + " 8 at 7", x -> x.of(0, 2), 7);
            comes(name + " 8 at 7", x -> x.of(0, 3), 5);
            comes(name + " 8 at 7", x -> x.of(0, 4), 0);
            comes(name + " 8 at 7 hold 9", x -> x.of(0, 3), 9);
            b.fault(name, Towns::rich, n);
            b.fault(name + ";", Towns::rich, n);
            b.fault(name + " at 7", Towns::rich, n + 1);
            b.text(name + " 0 at 7", Towns::rich, 1);
            b.text(name + " 8 at 7", Towns::rich, 1);
            b.fault(name + " 9 at 7", Towns::rich, n + 1);
            b.fault(name + " 8", Towns::rich, n + 2);
            b.fault(name + " 8;", Towns::rich, n + 2);
            b.fault(name + " 8 7", Towns::rich, n + 3);
            b.fault(name + " 8 hold 7", Towns::rich, n + 3);
            b.fault(name + " 8 at", Towns::rich, n + 5);
            b.fault(name + " 8 at;", Towns::rich, n + 5);
            b.fault(name + " 8 at hold", Towns::rich, n + 6);
            b.fault(name + " 8 at 7 8", Towns::rich, n + 8);
            b.fault(name + " 8 at 7 at", Towns::rich, n + 8);
            for (int i = 0; i < n; i++) {
                b.fault(name.substring(0, i) + "x" + name.substring(i + 1) + " 8 at 7", Towns::rich, 0);
            }
            b.fault(name.substring(1) + " 8 at 7", Towns::rich, 0);
            b.fault(name.substring(0, n - 1) + " 8 at 7", Towns::rich, 0);
        }
    }

    private static void feetOfTheText() {
        b.text("deep 4 at 0", Towns::rich, 1);
        b.text("deep 4 at 1999", Towns::rich, 1);
        b.fault("deep 4 at 2000", Towns::rich, 10);
        b.fault("deep 4 at 2001", Towns::rich, 10);
        b.text("edge 9999;deep 4 at 9998", Towns::rich, 2);
        b.fault("edge 9999;deep 4 at 9999", Towns::rich, 20);
        b.text("edge 100;deep 4 at 99", Towns::none, 2);
        b.fault("edge 100;deep 4 at 100", Towns::none, 19);
        b.text("deep 4 at 1999;edge 3000;deep 4 at 2999", Towns::rich, 3);
        b.fault("deep 4 at 2999;edge 3000", Towns::rich, 10);
        b.text("deep 4 at 99", x -> x.edge(100), 1);
        b.fault("deep 4 at 100", x -> x.edge(100), 10);
        comes("deep 4 at 0", x -> x.of(0, 2), 0);
        comes("deep 4 at 1999", x -> x.of(0, 2), 1999);
    }

    private static void holds() {
        b.text("roped 4 at 7 hold 0", Towns::rich, 1);
        b.text("roped 4 at 7 hold 99", Towns::rich, 1);
        b.fault("roped 4 at 7 hold 100", Towns::rich, 18);
        b.fault("roped 4 at 7 hold", Towns::rich, 17);
        b.fault("roped 4 at 7 hold;", Towns::rich, 17);
        b.fault("roped 4 at 7 hold at", Towns::rich, 18);
        b.fault("roped 4 at 7 holds 5", Towns::rich, 13);
        b.fault("roped 4 at 7 hol 5", Towns::rich, 13);
        b.fault("roped 4 at 7 hold 5 5", Towns::rich, 20);
        b.fault("roped 4 at 7 hold 5 hold 5", Towns::rich, 20);
        comes("roped 4 at 7 hold 0", x -> x.of(0, 3), 0);
        comes("roped 4 at 7 hold 99", x -> x.of(0, 3), 99);
        comes("roped 4 at 7 hold 9;roped 4 at 7", x -> x.of(1, 3), 5);
    }

    private static void stakes() {
        b.text("stake 0 from 0 for 1 went 0", Towns::rich, 1);
        b.text("stake 8 from 999 for 60 went 9999", Towns::rich, 1);
        b.fault("stake 9 from 999 for 60 went 9999", Towns::rich, 6);
        b.fault("stake 8 from 1000 for 60 went 9999", Towns::rich, 13);
        b.fault("stake 8 from 999 for 0 went 9999", Towns::rich, 21);
        b.fault("stake 8 from 999 for 61 went 9999", Towns::rich, 21);
        b.fault("stake 8 from 999 for 60 went 10000", Towns::rich, 29);
        b.fault("stake", Towns::rich, 5);
        b.fault("stake from", Towns::rich, 6);
        b.fault("stake 8", Towns::rich, 7);
        b.fault("stake 8 at 9", Towns::rich, 8);
        b.fault("stake 8 9", Towns::rich, 8);
        b.fault("stake 8 from", Towns::rich, 12);
        b.fault("stake 8 from for", Towns::rich, 13);
        b.fault("stake 8 from 999", Towns::rich, 16);
        b.fault("stake 8 from 999 went", Towns::rich, 17);
        b.fault("stake 8 from 999 for", Towns::rich, 20);
        b.fault("stake 8 from 999 for 60", Towns::rich, 23);
        b.fault("stake 8 from 999 for 60;", Towns::rich, 23);
        b.fault("stake 8 from 999 for 60 for", Towns::rich, 24);
        b.fault("stake 8 from 999 for 60 went", Towns::rich, 28);
        b.fault("stake 8 from 999 for 60 went;", Towns::rich, 28);
        b.fault("stake 8 from 999 for 60 went 1 2", Towns::rich, 31);
        comes("stake 8 from 999 for 60 went 3600", x -> x.learnt(8, 0), 60);
        comes("stake 8 from 999 for 60 went 3600", x -> x.learnt(7, 2), 61);
        comes("warm 6;stake 0 from 6 for 1 went 3", x -> x.learnt(0, 1), 2);
    }

    private static void whenFull() {
        b.text("house 0 at 0", Towns.houses(11), 1);
        b.fault("house 0 at 0", Towns.houses(12), 0);
        b.fault("house 0 at 0;deep 0 at 0", Towns.houses(11), 13);
        b.text("house 0 at 0;deep 0 at 0", Towns.houses(10), 2);
        b.fault("  church", Towns.houses(12), 2);
        b.fault("warm 1;ferry 9 at 9999", Towns.houses(12), 7);
        b.fault("houses", Towns.houses(12), 0);
        Bounds.Town gone = Towns.with(Towns.houses(12), x -> Checker.pass(x, 200));
        b.fault("warm 1;house 0 at 0", gone, 7);
        b.text("warm 1;stake 0 from 0 for 1 went 0", Towns.houses(12), 2);
        String stake = "stake 0 from 0 for 1 went 0";
        Bounds.Town nine = x -> {
            for (int s = 0; s < 9; s++) {
                x.stake(0, 0, 1, 0);
            }
        };
        Bounds.Town ten = Towns.with(nine, x -> x.stake(0, 0, 1, 0));
        b.text(stake, nine, 1);
        b.fault(stake, ten, 0);
        b.fault(stake + ";" + stake, nine, 28);
        b.fault("warm 1; stake 9", ten, 8);
        b.text("warm 1;house 0 at 0", ten, 2);
        b.text("deep0at0;".repeat(11) + "deep0at0", Towns::none, 12);
        b.fault("deep0at0;".repeat(12) + "deep0at0", Towns::none, 108);
        b.text("stake0from0for1went0;".repeat(4) + "stake0from0for1went0", Towns::none, 5);
    }

    /** All items ahead of a fault are as if they had not been. */
    private static void townsThatStay() {
        String[] items = {
            "edge 3000", "pace 4 60", "warm 0 5", "house 4 at 1999", "church 4 at 0 hold 99",
            "stake 4 from 0 for 1 went 60",
        };
        for (String item : items) {
            b.text(item, Towns::rich, 1);
            b.fault(item + ";", Towns::rich, item.length() + 1);
            b.fault(item + "; edge 99", Towns::rich, item.length() + 7);
            b.fault(item + " ?", Towns::rich, item.length() + 1);
        }
        b.fault(String.join(";", items) + "; ?", Towns::rich, String.join(";", items).length() + 2);
    }

    /** Each item is as the act that does the same; all else stays, and the tape is empty. */
    private static void townsThatCome() {
        Bounds.Town told = x -> {
            x.wipe();
            Checker.town(x, "edge 3000;pace 4 60;warm 0 5;church 4 at 2999 hold 99;stake 4 from 0 for 1 went 90");
        };
        Bounds.Town acted = x -> {
            x.wipe();
            x.edge(3000);
            x.pace(4, 60);
            x.warm(1 << 0 | 1 << 5);
            x.hold(x.house(3, 4, 2999), 99);
            x.stake(4, 0, 1, 90);
        };
        b.alike("as the acts", Towns.with(Towns::rich, told), Towns.with(Towns::rich, acted));
        b.then("YEAR stays", Towns::rich, told, x -> x.now(0), 3);
        b.then("HOUSES stay", Towns::rich, told, x -> x.of(0, 2), 154);
        b.then("a new number", Towns::rich, told, x -> x.of(7, 0), 3);
        b.then("learnt", Towns::none, told, x -> x.learnt(4, 0), 60);
    }
}
