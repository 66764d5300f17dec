/** The bounds of promises 8 to 15: house, of, hold, as, turn, haul, years, now. */
public final class HouseBoundsTest {
    private static final Bounds b = new Bounds("HouseBoundsTest");

    public static void main(String[] args) {
        house();
        houseWhenFull();
        of();
        ofAGoneOne();
        steps();
        sledgesAndFerries();
        hold();
        as();
        turn();
        haul();
        years();
        yearsAtTheLast();
        yearsAtTheEdge();
        now();
        b.end();
    }

    private static void house() {
        b.act(8, "house");
        b.within("house(kind, 4, 100)", Towns::rich, (x, v) -> x.house(v, 4, 100), 0, 7, 5, 7);
        b.within("house(0, lane, 100)", Towns::rich, (x, v) -> x.house(0, v, 100), 0, 7, 8, 7);
        b.within("house(0, 4, feet)", Towns::rich, (x, v) -> x.house(0, 4, v), 0, 7, 1999, 7);
        b.within("house(0, 4, feet), EDGE 100", x -> x.edge(100), (x, v) -> x.house(0, 4, v), 0, 0, 99, 0);
        b.within("house(0, 4, feet), EDGE 9999", x -> x.edge(9999), (x, v) -> x.house(0, 4, v), 0, 0, 9998, 0);
        for (int kind = 0; kind <= 5; kind++) {
            int k = kind;
            b.then("its KIND is " + k, Towns::none, x -> x.house(k, 4, 100), x -> x.of(0, 0), k);
            b.then("HOLD of KIND " + k + " is 5", Towns::none, x -> x.house(k, 4, 100), x -> x.of(0, 3), 5);
        }
        b.then("it isn't GONE", Towns::none, x -> x.house(0, 8, 1999), x -> x.of(0, 4), 0);
        b.then("its LANE", Towns::none, x -> x.house(0, 8, 1999), x -> x.of(0, 1), 8);
        b.then("its FEET", Towns::none, x -> x.house(0, 8, 1999), x -> x.of(0, 2), 1999);
    }

    private static void houseWhenFull() {
        b.takes("the first", Towns::none, x -> x.house(0, 0, 0), 0);
        b.takes("a 12th", Towns.houses(11), x -> x.house(0, 0, 0), 11);
        b.refuses("a 13th", Towns.houses(12), x -> x.house(0, 0, 0), Checker.FULL);
        Bounds.Town gone = Towns.with(Towns.houses(12), x -> Checker.pass(x, 200));
        b.refuses("a 13th, though all are GONE", gone, x -> x.house(0, 0, 0), Checker.FULL);
        b.beyond("ahead of FULL, kind", Towns.houses(12), (x, v) -> x.house(v, 0, 0), -1, 6);
        b.beyond("ahead of FULL, lane", Towns.houses(12), (x, v) -> x.house(0, v, 0), -1, 9);
        b.beyond("ahead of FULL, feet", Towns.houses(12), (x, v) -> x.house(0, 0, v), -1, 2000);
    }

    private static void of() {
        b.question(9, "of");
        b.within("of(house, 1)", Towns::rich, (x, v) -> x.of(v, 1), 0, 4, 6, 4);
        // lane 3 goes 21 in year 3, which is warm, and HOLD is 7
        b.within("of(1, what)", Towns::rich, (x, v) -> x.of(1, v), 0, 1, 5, 14);
        b.takes("LANE", Towns::rich, x -> x.of(1, 1), 3);
        b.takes("FEET", Towns::rich, x -> x.of(1, 2), 200 + 3 * 9);
        b.takes("HOLD", Towns::rich, x -> x.of(1, 3), 7);
        b.takes("not GONE", Towns::rich, x -> x.of(1, 4), 0);
        b.beyond("of(house, 0) without houses", Towns::none, (x, v) -> x.of(v, 0), -1, 0, 1);
        b.within("of(house, 0) of twelve", Towns.houses(12), (x, v) -> x.of(v, 0), 0, 0, 11, 0);
        b.beyond("house and what", Towns::rich, (x, v) -> x.of(v, 6), -1, 7);
    }

    private static void ofAGoneOne() {
        b.takes("FEET are EDGE", Towns::rich, x -> x.of(6, 2), 2000);
        b.takes("GONE", Towns::rich, x -> x.of(6, 4), 1);
        for (int kind = 0; kind <= 5; kind++) {
            int k = kind;
            b.takes("STEP as KIND " + k, Towns.with(Towns::rich, x -> x.turn(6, k)), x -> x.of(6, 5), 0);
        }
    }

    private static Bounds.Town kindAt(int kind, int lane, int pace, int year) {
        return x -> {
            x.house(kind, lane, 0);
            x.pace(lane, 0);
            Checker.pass(x, year);
            x.pace(lane, pace);
        };
    }

    private static void steps() {
        for (int kind : new int[] {1, 3}) {
            for (int more = -1; more <= 1; more++) {
                int hold = 18 + more;
                Bounds.Town held = Towns.with(kindAt(kind, 4, 18, 1), x -> x.hold(0, hold));
                b.takes("KIND " + kind + ", HOLD " + hold + " against 18", held, x -> x.of(0, 5), more < 0 ? 1 : 0);
            }
            Bounds.Town fast = Towns.with(kindAt(kind, 4, 60, 1), x -> x.warm(127));
            b.then("KIND " + kind + ", HOLD 0 against 90", fast, x -> x.hold(0, 0), x -> x.of(0, 5), 90);
            b.then("KIND " + kind + ", HOLD 99 against 90", fast, x -> x.hold(0, 99), x -> x.of(0, 5), 0);
            b.then("KIND " + kind + ", HOLD 89 against 90", fast, x -> x.hold(0, 89), x -> x.of(0, 5), 1);
        }
        for (int kind : new int[] {0, 2, 4, 5}) {
            int due = new int[] {18, 0, 18, 0, 21, 9}[kind];
            b.then("HOLD is none of KIND " + kind, kindAt(kind, 4, 18, 0), x -> x.hold(0, 99), x -> x.of(0, 5), due);
        }
        int[] years = {0, 1, 2, 998, 999};
        for (int year : years) {
            b.takes("a CHURCH in " + year, kindAt(3, 4, 18, year), x -> x.of(0, 5), year % 2 == 0 ? 0 : 13);
        }
        int[][] halves = {{0, 0}, {1, 0}, {2, 1}, {3, 1}, {60, 30}};
        for (int[] h : halves) {
            b.takes("a DEEP one in a LANE of " + h[0], kindAt(5, 4, h[0], 0), x -> x.of(0, 5), h[1]);
        }
        b.then("a DEEP one, half of 3 and 1", kindAt(5, 4, 3, 0), x -> x.warm(1), x -> x.of(0, 5), 2);
    }

    /** Lanes go 1 to 9 but for what is said, so that the one nearer to lane 4 is known by its number. */
    private static Bounds.Town slopes(int kind, int lane, boolean reversed) {
        return x -> {
            for (int l = 0; l <= 8; l++) {
                x.pace(l, reversed ? 9 - l : l + 1);
            }
            x.house(kind, lane, 0);
        };
    }

    private static void sledgesAndFerries() {
        // by lanes: what is nearer to lane 4 counts where it is more
        int[] rising = {2, 3, 4, 5, 5, 6, 7, 8, 9};
        int[] falling = {9, 8, 7, 6, 5, 5, 4, 3, 2};
        for (int lane = 0; lane <= 8; lane++) {
            b.takes("a SLEDGE in " + lane, slopes(2, lane, false), x -> x.of(0, 5), rising[lane]);
            b.takes("a SLEDGE in " + lane, slopes(2, lane, true), x -> x.of(0, 5), falling[lane]);
            b.takes("a FERRY in " + lane, slopes(4, lane, false), x -> x.of(0, 5), rising[lane] + 3);
            b.takes("a FERRY in " + lane, slopes(4, lane, true), x -> x.of(0, 5), falling[lane] + 3);
        }
    }

    private static void hold() {
        b.act(10, "hold");
        b.within("hold(house, 9)", Towns::rich, (x, v) -> x.hold(v, 9), 0, 5, 6, 5);
        b.within("hold(1, v)", Towns::rich, (x, v) -> x.hold(1, v), 0, 7, 99, 7);
        b.within("hold(6, v) of a GONE one", Towns::rich, (x, v) -> x.hold(6, v), 0, 5, 99, 5);
        b.then("HOLD is 0 then", Towns::rich, x -> x.hold(1, 0), x -> x.of(1, 3), 0);
        b.then("HOLD is 99 then", Towns::rich, x -> x.hold(1, 99), x -> x.of(1, 3), 99);
        b.beyond("hold(house, 0) without houses", Towns::none, (x, v) -> x.hold(v, 0), -1, 0);
    }

    private static void as() {
        b.question(11, "as");
        b.within("as(house, 0)", Towns::rich, (x, v) -> x.as(v, 0), 0, 100 + 3 * 18, 6, 2000);
        b.beyond("as(3, kind)", Towns::rich, (x, v) -> x.as(3, v), -1, 6, Integer.MIN_VALUE, Integer.MAX_VALUE);
        b.beyond("ahead of KIND, as(house, 5)", Towns::rich, (x, v) -> x.as(v, 5), -1, 7);
        b.beyond("without houses", Towns::none, (x, v) -> x.as(v, 0), -1, 0);
        // in rich, house k is of kind k; in years 0 to 2 they went 18, 9, 14, 9 in all, 17, 9
        int[] feet = {154, 227, 342, 409, 551, 627};
        String[] isA = {"0", "01", "02", "013", "024", "05"};
        for (int house = 0; house <= 5; house++) {
            for (int kind = 0; kind <= 5; kind++) {
                int h = house;
                int k = kind;
                String what = "as(" + h + ", " + k + ")";
                if (isA[h].indexOf('0' + k) >= 0) {
                    b.takes(what, Towns::rich, x -> x.as(h, k), feet[h]);
                } else {
                    b.refuses(what, Towns::rich, x -> x.as(h, k), Checker.KIND);
                }
            }
        }
        b.refuses("a GONE one of another kind", Towns::rich, x -> x.as(6, 1), Checker.KIND);
    }

    private static void turn() {
        b.act(12, "turn");
        b.within("turn(house, 3)", Towns::rich, (x, v) -> x.turn(v, 3), 0, 0, 6, 0);
        b.within("turn(4, kind)", Towns::rich, (x, v) -> x.turn(4, v), 0, 4, 5, 4);
        b.then("its KIND then", Towns::rich, x -> x.turn(4, 5), x -> x.of(4, 0), 5);
        b.takes("to the KIND that it is", Towns::rich, x -> x.turn(4, 4), 4);
        b.then("HOLD stays", Towns::rich, x -> x.turn(1, 0), x -> x.of(1, 3), 7);
        b.beyond("turn(house, 0) without houses", Towns::none, (x, v) -> x.turn(v, 0), -1, 0);
    }

    private static void haul() {
        b.act(13, "haul");
        b.within("haul(house, 1)", Towns.two(4, 50, 4, 60), (x, v) -> x.haul(v, 1), 0, 1, 1, 1);
        b.within("haul(0, n)", Towns::rich, (x, v) -> x.haul(0, v), 1, 1, 9999, 154);
        b.takes("a FOOT less than all", Towns::rich, x -> x.haul(0, 153), 153);
        b.then("a FOOT less than all", Towns::rich, x -> x.haul(0, 153), x -> x.of(0, 2), 1);
        b.takes("all", Towns::rich, x -> x.haul(0, 154), 154);
        b.then("all", Towns::rich, x -> x.haul(0, 154), x -> x.of(0, 2), 0);
        b.takes("to 0 at most", Towns::rich, x -> x.haul(0, 155), 154);
        b.then("to 0 at most", Towns::rich, x -> x.haul(0, 155), x -> x.of(0, 2), 0);
        b.takes("from 0", Towns.one(4, 0), x -> x.haul(0, 1), 0);
        b.takes("the most", x -> far(x), x -> x.haul(0, 9998), 9998);
        b.then("its DEED stays", Towns::rich, x -> x.haul(0, 100), x -> x.deedOf(0, 1), 120 + 3 * 18);
        b.refuses("a GONE one", Towns::rich, x -> x.haul(6, 1), Checker.STATE);
        b.refuses("a GONE one by 9999", Towns::rich, x -> x.haul(6, 9999), Checker.STATE);
        b.beyond("ahead of STATE, haul(6, n)", Towns::rich, (x, v) -> x.haul(6, v), 0, 10000);
        b.beyond("haul(house, 1) in rich", Towns::rich, (x, v) -> x.haul(v, 1), -1, 7);
    }

    private static void far(GlacierStreets x) {
        x.edge(9999);
        x.house(0, 4, 9998);
    }

    private static void years() {
        b.act(14, "years");
        b.within("years(n)", Towns::none, (x, v) -> x.years(v), 1, 0, 50, 0);
        b.beyond("years(n) in rich", Towns::rich, (x, v) -> x.years(v), 0, 51, -1);
        b.then("YEAR is 1 more", Towns::rich, x -> x.years(1), x -> x.now(0), 4);
        b.then("YEAR is 50 more", Towns.still(3), x -> x.years(50), x -> x.now(0), 53);
        b.takes("how many are GONE by them, not ever", Towns::rich, x -> x.years(1), 0);
        b.takes("one in each of two", Towns.two(4, 1982, 4, 1981), x -> x.years(2), 2);
        b.takes("one in the first of two", Towns.two(4, 1982, 4, 0), x -> x.years(2), 1);
        b.takes("one in the second of two", Towns.two(4, 1981, 4, 0), x -> x.years(2), 1);
        // house 11, of which the deeds are, is in lane 2, which goes 10
        b.takes("in a full town", Towns::full, x -> x.years(1), 0);
        b.then("DEEDS of a full town go on", Towns::full, x -> x.years(1), x -> x.deedOf(9, 1), 110 + 90 + 10);
        b.takes("all twelve in one", x -> {
            for (int h = 0; h < 12; h++) {
                x.house(0, 4, 1999 - h);
            }
        }, x -> x.years(1), 12);
    }

    private static void yearsAtTheLast() {
        b.then("to 999 from 949", Towns.still(949), x -> x.years(50), x -> x.now(0), 999);
        b.refuses("to 1000 from 950", Towns.still(950), x -> x.years(50), Checker.STATE);
        b.then("to 999 from 950", Towns.still(950), x -> x.years(49), x -> x.now(0), 999);
        b.then("to 999 from 998", Towns.still(998), x -> x.years(1), x -> x.now(0), 999);
        b.refuses("to 1000 from 998", Towns.still(998), x -> x.years(2), Checker.STATE);
        b.refuses("to 1000 from 999", Towns.still(999), x -> x.years(1), Checker.STATE);
        b.beyond("ahead of STATE", Towns.still(999), (x, v) -> x.years(v), 0, 51);
    }

    private static void yearsAtTheEdge() {
        int[][] due = {{1981, 0, 1999}, {1982, 1, 2000}, {1983, 1, 2000}, {1999, 1, 2000}};
        for (int[] d : due) {
            b.takes("from " + d[0] + " by 18", Towns.one(4, d[0]), x -> x.years(1), d[1]);
            b.then("GONE from " + d[0], Towns.one(4, d[0]), x -> x.years(1), x -> x.of(0, 4), d[1]);
            b.then("FEET from " + d[0], Towns.one(4, d[0]), x -> x.years(1), x -> x.of(0, 2), d[2]);
            b.then("FEET at last from " + d[0], Towns.one(4, d[0]), x -> x.years(50), x -> x.of(0, 2), 2000);
        }
        Bounds.Town gone = Towns.with(Towns.one(4, 1982), x -> x.years(1));
        for (int edge : new int[] {100, 1999, 2001, 9999}) {
            b.then("FEET stay, whatever EDGE becomes", gone, x -> {
                x.edge(edge);
                x.years(5);
            }, x -> x.of(0, 2), 2000);
        }
        Bounds.Town near = Towns.with(Towns.one(4, 82), x -> x.edge(100));
        b.takes("EDGE as it is then", near, x -> x.years(1), 1);
        b.then("EDGE as it is then", near, x -> x.years(1), x -> x.of(0, 2), 100);
        Bounds.Town stands = Towns.with(x -> x.pace(0, 0), Towns.one(0, 1999));
        b.takes("without a STEP none goes", stands, x -> x.years(50), 0);
        b.then("the YEAR that goes is warm", Towns.one(4, 0), x -> {
            x.warm(1 << 0);
            x.years(1);
        }, x -> x.of(0, 2), 27);
        b.then("the next one is", Towns.one(4, 0), x -> {
            x.warm(1 << 1);
            x.years(1);
        }, x -> x.of(0, 2), 18);
        b.then("a CHURCH in 0", kindAt(3, 4, 18, 0), x -> x.years(1), x -> x.of(0, 2), 0);
        b.then("a CHURCH in 0 and 1", kindAt(3, 4, 18, 0), x -> x.years(2), x -> x.of(0, 2), 13);
        b.then("a POINT goes on beyond EDGE", Towns::rich, x -> {
            x.years(1);
            x.edge(9999);
        }, x -> x.deedOf(1, 1), 2989 + 3 * 18 + 27);
    }

    private static void now() {
        b.question(15, "now");
        b.within("now(what)", Towns::rich, (x, v) -> x.now(v), 0, 3, 3, 6);
        b.takes("EDGE", Towns::rich, x -> x.now(1), 2000);
        b.takes("WARM", Towns::rich, x -> x.now(2), 10);
        b.takes("all twelve stand", Towns.houses(12), x -> x.now(3), 12);
        b.takes("none stands", Towns.with(Towns.houses(12), x -> Checker.pass(x, 200)), x -> x.now(3), 0);
        b.takes("the last YEAR", Towns.still(999), x -> x.now(0), 999);
    }
}
