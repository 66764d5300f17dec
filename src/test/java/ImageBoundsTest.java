/** The bounds of promises 41 to 45: image, undo, tear, count, status. */
public final class ImageBoundsTest {
    private static final Bounds b = new Bounds("ImageBoundsTest");

    public static void main(String[] args) {
        image();
        undo();
        undoBringsAll();
        undoLeaves();
        tear();
        count();
        status();
        statusOfEach();
        statusToTheLast();
        b.end();
    }

    private static void image() {
        b.act(41, "image");
        b.takes("of nothing", Towns::none, x -> x.image(), 1);
        b.takes("of rich", Towns::rich, x -> x.image(), 1);
        b.then("another", Towns::rich, x -> x.image(), x -> x.image(), 1);
        b.then("the latest is kept", Towns::rich, x -> {
            x.image();
            x.years(9);
            x.undo();
        }, x -> x.now(0), 3);
        b.then("changes nothing now", Towns::rich, x -> x.image(), x -> x.now(0), 3);
    }

    private static void undo() {
        b.act(42, "undo");
        b.refuses("nothing is kept", Towns::none, x -> x.undo(), Checker.NONE);
        b.refuses("nothing is kept any more", Towns.with(Towns::rich, x -> x.tear()), x -> x.undo(), Checker.NONE);
        b.takes("how many HOUSES, GONE ones too", Towns::rich, x -> x.undo(), 7);
        b.takes("none", x -> x.image(), x -> x.undo(), 0);
        b.takes("none again", Towns.with(x -> x.image(), Towns.houses(12)), x -> x.undo(), 0);
        b.takes("twelve", Towns.with(Towns.houses(12), x -> x.image()), x -> x.undo(), 12);
        b.then("it stays", Towns::rich, x -> {
            x.undo();
            x.house(0, 0, 0);
        }, x -> x.undo(), 7);
        b.then("a full town has room again", Towns.with(x -> x.image(), Towns.houses(12)), x -> x.undo(),
            x -> x.house(0, 0, 0), 0);
    }

    /** What each act changes comes back. */
    private static void undoBringsAll() {
        Bounds.Town[] acts = {
            x -> x.edge(9999), x -> x.pace(0, 60), x -> x.pace(8, 0), x -> x.warm(127), x -> x.house(5, 8, 1999),
            x -> x.hold(0, 99), x -> x.hold(6, 0), x -> x.turn(0, 5), x -> x.turn(6, 1), x -> x.haul(0, 9999),
            x -> x.years(1), x -> x.years(50), x -> x.deed(0, 999), x -> x.stake(8, 999, 60, 9999),
            x -> x.lays(1),
        };
        for (int i = 0; i < acts.length; i++) {
            Bounds.Town act = acts[i];
            b.alike("act " + i + " taken back", Towns.with(Towns::rich, x -> {
                x.image();
                act.build(x);
                x.undo();
            }), Towns.with(Towns::rich, x -> x.image()));
        }
        b.alike("a town of a text taken back", Towns.with(Towns::rich, x -> {
            x.wipe();
            x.image();
            Checker.town(x, "edge 3000;pace 0 1;warm 6;deep 0 at 2999;stake 0 from 0 for 1 went 9");
            x.undo();
        }), Towns.with(Towns::rich, x -> {
            x.wipe();
            x.image();
        }));
        Bounds.Town late = Towns.with(Towns.still(999), x -> x.undo());
        b.alike("from the last YEAR to 0", late, Towns.still(0));
        Bounds.Town fallen = Towns.with(Towns.one(4, 1999), x -> {
            x.image();
            x.years(1);
            x.undo();
        });
        b.takes("one that was GONE goes again", fallen, x -> x.years(1), 1);
        Bounds.Town emptied = x -> {
            x.image();
            x.house(0, 4, 1999);
            x.undo();
        };
        b.takes("one that isn't there any more doesn't go", emptied, x -> x.years(1), 0);
        b.refuses("nor is there one of its number", emptied, x -> x.of(0, 0), Checker.BEYOND);
        Bounds.Town ruin = x -> {
            x.image();
            x.house(0, 4, 1999);
            x.hold(0, 99);
            x.years(1);
            x.undo();
        };
        b.then("a new one of its number isn't GONE", ruin, x -> x.house(1, 3, 7), x -> x.of(0, 4), 0);
        b.then("a new one of its number has HOLD 5", ruin, x -> x.house(1, 3, 7), x -> x.of(0, 3), 5);
        Bounds.Town alone = Towns.with(Towns.one(4, 100), x -> {
            x.deed(0, 50);
            x.image();
            x.house(0, 4, 150);
            x.undo();
        });
        b.takes("a DEED is no one's that isn't there", alone, x -> x.whose(0), 0);
        b.takes("nor is it beside one", alone, x -> x.beside(0), 0);
        b.alike("a full town", Towns.with(Towns::full, x -> {
            x.years(50);
            x.undo();
        }), Towns::full);
    }

    /** The tape, the sheets and what status() counts are no part of an image. */
    private static void undoLeaves() {
        b.then("THE TAPE", Towns::rich, x -> {
            x.feed(0, 4);
            x.undo();
        }, x -> x.count(3), 10);
        b.then("an empty TAPE", Towns::rich, x -> {
            x.wipe();
            x.undo();
        }, x -> x.count(3), 0);
        b.then("a number of a sheet", Towns::rich, x -> {
            x.write(0, 0, 77);
            x.undo();
        }, x -> x.write(0, 0, 0), 77);
        b.then("a new sheet", Towns::rich, x -> {
            x.sheet(3, 8, 1);
            x.undo();
        }, x -> x.write(3, 0, 1), 0);
        Bounds.Town missing = Towns.with(Towns::rich, x -> {
            x.sheet(0, 0, 0);
            x.undo();
        });
        b.refuses("a MISSING sheet", missing, x -> x.write(0, 0, 1), Checker.MISSING);
        Bounds.Town faulty = Towns.with(Towns::rich, x -> {
            x.image();
            x.now(4);
            x.undo();
        });
        b.takes("findings", faulty, x -> x.status(0), 2);
    }

    private static void tear() {
        b.act(43, "tear");
        b.takes("nothing was kept", Towns::none, x -> x.tear(), 0);
        b.takes("something was", Towns::rich, x -> x.tear(), 1);
        b.takes("it was the image of nothing", x -> x.image(), x -> x.tear(), 1);
        b.then("twice", Towns::rich, x -> x.tear(), x -> x.tear(), 0);
        b.then("two images are one", Towns.with(Towns::rich, x -> x.image()), x -> x.tear(), x -> x.tear(), 0);
        b.then("after undo it is still kept", Towns::rich, x -> x.undo(), x -> x.tear(), 1);
        b.then("a new image", Towns::rich, x -> {
            x.tear();
            x.image();
        }, x -> x.undo(), 7);
        b.then("changes nothing now", Towns::rich, x -> x.tear(), x -> x.now(0), 3);
    }

    private static void count() {
        b.question(44, "count");
        b.within("count(what)", Towns::rich, (x, v) -> x.count(v), 0, 7, 3, 6);
        b.takes("DEEDS", Towns::rich, x -> x.count(1), 3);
        b.takes("STAKES", Towns::rich, x -> x.count(2), 2);
        b.takes("twelve HOUSES", Towns.houses(12), x -> x.count(0), 12);
        Bounds.Town gone = Towns.with(Towns.houses(12), x -> Checker.pass(x, 200));
        b.takes("twelve GONE ones", gone, x -> x.count(0), 12);
        Bounds.Town full = Towns.with(Towns.one(4, 0), x -> {
            for (int i = 0; i < 10; i++) {
                x.deed(0, i);
                x.stake(0, 0, 1, i);
            }
            Checker.feed(x, " ".repeat(120));
        });
        b.takes("ten DEEDS", full, x -> x.count(1), 10);
        b.takes("ten STAKES", full, x -> x.count(2), 10);
        b.takes("120 bytes", full, x -> x.count(3), 120);
    }

    private static void status() {
        b.question(45, "status");
        b.within("status(which)", Towns::rich, (x, v) -> x.status(v), -1, 1, 6, 0);
        b.takes("BEYOND", Towns::rich, x -> x.status(0), 1);
        Bounds.Town asked = Towns.with(Towns::rich, x -> {
            x.status(7);
            x.status(-2);
        });
        b.takes("counted from then on", asked, x -> x.status(0), 3);
        b.takes("counted from then on, among all", asked, x -> x.status(-1), 3);
    }

    /** Each finding once, in a town that was asked for it. */
    private static void statusOfEach() {
        Bounds.Town[] asks = {
            x -> x.warm(128), x -> Checker.feed(x, " ".repeat(121)), x -> x.as(0, 1), x -> x.crack(0),
            x -> x.edge(100), x -> x.lays(0), x -> x.sheet(0, 8, -1),
        };
        Bounds.Town before = x -> {
            x.pace(0, 6);
            x.house(0, 4, 100);
        };
        for (int finding = 0; finding <= 6; finding++) {
            Bounds.Town asked = Towns.with(before, asks[finding]);
            for (int which = 0; which <= 6; which++) {
                int w = which;
                b.takes("finding " + finding + ", status(" + w + ")", asked, x -> x.status(w), w == finding ? 1 : 0);
            }
            b.takes("finding " + finding + ", status(-1)", asked, x -> x.status(-1), 1);
        }
        Bounds.Town all = Towns.with(before, x -> {
            for (int finding = 0; finding <= 6; finding++) {
                for (int times = 0; times <= finding; times++) {
                    x.wipe();
                    asks[finding].build(x);
                }
            }
        });
        for (int which = 0; which <= 6; which++) {
            int w = which;
            b.takes("all, status(" + w + ")", all, x -> x.status(w), w + 1);
        }
        b.takes("all, status(-1)", all, x -> x.status(-1), 28);
        b.takes("a write counts too", x -> x.write(0, 0, 0), x -> x.status(5), 1);
        b.takes("a FAULT is no finding", x -> x.town(), x -> x.status(-1), 0);
    }

    /** The last of 512 calls still tells all that went before. */
    private static void statusToTheLast() {
        GlacierStreets x = new GlacierStreets();
        for (int call = 1; call < 512; call++) {
            x.status(7);
        }
        Checker c = new Checker("ImageBoundsTest");
        c.due("promise 45, status: the 512th call", x.status(-1), 511);
        c.end();
    }
}
