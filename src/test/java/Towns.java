/** Towns that tests at the bounds are built from. */
final class Towns {
    private Towns() {
    }

    static void none(GlacierStreets x) {
    }

    /**
     * Something of all: in year 3, seven houses of which the last is gone, each
     * kind once but for it; three deeds, two stakes, three sheets, a tape, an
     * image of year 0, and a finding.
     */
    static void rich(GlacierStreets x) {
        x.status(7);
        for (int kind = 0; kind <= 5; kind++) {
            x.house(kind, new int[] {4, 3, 2, 5, 6, 4}[kind], 100 * (kind + 1));
        }
        x.house(0, 4, 1990);
        x.deed(0, 20);
        x.deed(6, 999);
        x.deed(1, -999);
        x.stake(4, 0, 2, 36);
        x.stake(3, 0, 1, 14);
        sheets(x);
        x.image();
        x.years(3);
        x.warm(0b0001010);
        x.hold(1, 7);
        x.pace(8, 31);
        Checker.feed(x, "warm 3");
    }

    private static void sheets(GlacierStreets x) {
        x.sheet(0, 8, 3);
        x.sheet(1, 16, 5);
        x.sheet(2, 64, 3);
        for (int i = 0; i < 3; i++) {
            x.write(0, i, i - 100);
            x.write(1, i, 1000 + i);
            x.write(2, i, (1L << 40) + i);
        }
    }

    /** Houses 0 and 1 stand still in lane 0, 20 feet apart; house 2 is gone; each has a deed. */
    static void stillIn(GlacierStreets x, int year) {
        x.pace(0, 0);
        x.house(0, 0, 100);
        x.house(0, 0, 120);
        x.house(0, 4, 1999);
        x.deed(0, 7);
        x.deed(1, 8);
        x.deed(2, 9);
        x.sheet(0, 16, 3);
        x.image();
        Checker.pass(x, year);
    }

    static Bounds.Town still(int year) {
        return x -> stillIn(x, year);
    }

    /** So many houses, in lane 4 at 0, 10, 20 feet and so on. */
    static Bounds.Town houses(int many) {
        return x -> {
            for (int h = 0; h < many; h++) {
                x.house(0, 4, 10 * h);
            }
        };
    }

    /** One house of kind 0 in a lane, at so many feet. */
    static Bounds.Town one(int lane, int feet) {
        return x -> x.house(0, lane, feet);
    }

    /** Two houses of kind 0. */
    static Bounds.Town two(int lane, int feet, int otherLane, int otherFeet) {
        return x -> {
            x.house(0, lane, feet);
            x.house(0, otherLane, otherFeet);
        };
    }

    /** All that there is room for: twelve houses, ten deeds, ten stakes, four sheets, a tape, and an image of it. */
    static void full(GlacierStreets x) {
        for (int h = 0; h < 12; h++) {
            x.house(h % 6, h % 9, 10 * h);
        }
        for (int i = 0; i < 10; i++) {
            x.deed(11, 10 * i);
            x.stake(8, 0, 1, 2);
        }
        // one sheet alone is full, that all can be seen of it in 512 calls
        for (int s = 0; s < 4; s++) {
            x.sheet(s, 16, s == 0 ? 40 : s);
        }
        Checker.feed(x, " ".repeat(120));
        x.image();
    }

    /** In year 3, with the next one warm, so that AHEAD is told from back. */
    static Bounds.Town inSpring(Bounds.Town town) {
        return x -> {
            x.warm(1 << 4);
            x.years(3);
            town.build(x);
        };
    }

    /** What is built, and then an act more. */
    static Bounds.Town with(Bounds.Town town, Bounds.Town more) {
        return x -> {
            town.build(x);
            more.build(x);
        };
    }
}
