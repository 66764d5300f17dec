/** Promises 41 to 45: image, undo, tear, count, status. */
public final class ImagesTest {
    private static final Checker c = new Checker("ImagesTest");

    public static void main(String[] args) {
        image();
        tear();
        count();
        status();
        c.end();
    }

    private static void image() {
        GlacierStreets x = new GlacierStreets();
        x.house(1, 3, 50);
        x.deed(0, 5);
        x.stake(3, 0, 1, 14);
        x.sheet(0, 8, 1);
        c.due("image", x.image(), 1);
        x.edge(3000);
        x.warm(5);
        x.pace(3, 1);
        x.house(2, 8, 7);
        x.hold(0, 9);
        x.turn(0, 4);
        x.haul(0, 20);
        x.deed(0, 6);
        x.stake(3, 0, 1, 1);
        x.feed(0, 3);
        x.write(0, 0, 4);
        x.years(50);
        for (int i = 0; i < 2; i++) {
            c.due("undo", x.undo(), 1);
            c.due("year", x.now(0), 0);
            c.due("edge", x.now(1), 2000);
            c.due("warm", x.now(2), 0);
            c.due("pace", x.goes(3, 0), 14);
            c.due("houses", x.count(0), 1);
            c.due("kind", x.of(0, 0), 1);
            c.due("feet", x.of(0, 2), 50);
            c.due("hold", x.of(0, 3), 5);
            c.due("deeds", x.count(1), 1);
            c.due("place", x.deedOf(0, 1), 55);
            c.due("stakes", x.count(2), 1);
            c.due("learnt", x.learnt(3, 0), 14);
            c.due("the tape stays", x.count(3), 3);
            c.due("sheets stay", x.write(0, 0, 4), 4);
            x.years(1);
            x.haul(0, 7);
            x.edge(4000);
        }
        c.due("gone is kept", x.edge(100), 4000);
        x.years(10);
        c.due("gone", x.of(0, 4), 1);
        c.due("image", x.image(), 1);
        x.edge(5000);
        c.due("the latest is kept", x.undo(), 1);
        c.due("edge", x.now(1), 100);
        c.due("gone", x.of(0, 4), 1);
    }

    private static void tear() {
        GlacierStreets x = new GlacierStreets();
        c.due("tear", x.tear(), 0);
        x.image();
        x.house(0, 0, 0);
        x.image();
        c.due("tear", x.tear(), 1);
        c.due("tear again", x.tear(), 0);
        c.due("undo", x.undo(), Checker.NONE);
        c.due("count(0)", x.count(0), 1);
        x.image();
        c.due("undo", x.undo(), 1);
    }

    private static void count() {
        GlacierStreets x = new GlacierStreets();
        x.house(0, 0, 0);
        x.house(0, 0, 1999);
        x.deed(0, 0);
        x.stake(0, 0, 1, 0);
        x.stake(0, 0, 1, 0);
        x.stake(0, 0, 1, 0);
        x.feed(0, 4);
        x.years(1);
        c.due("count(0), gone ones too", x.count(0), 2);
        c.due("count(1)", x.count(1), 1);
        c.due("count(2)", x.count(2), 3);
        c.due("count(3)", x.count(3), 4);
        c.due("count(4)", x.count(4), Checker.BEYOND);
        c.due("count(-1)", x.count(-1), Checker.BEYOND);
    }

    private static void status() {
        GlacierStreets x = new GlacierStreets();
        for (int which = -1; which <= 6; which++) {
            c.due("status(" + which + ")", x.status(which), 0);
        }
        c.due("status(7)", x.status(7), Checker.BEYOND);
        c.due("it is counted", x.status(0), 1);
        c.due("status(-2)", x.status(-2), Checker.BEYOND);
        c.due("it is counted", x.status(-1), 2);
        x.image();
        x.feed(0, 0);
        for (int i = 0; i < 30; i++) {
            x.feed(0, 4);
        }
        x.feed(0, 4);
        x.feed(0, 4);
        x.house(0, 0, 1999);
        x.as(0, 1);
        x.as(0, 2);
        x.as(0, 3);
        x.whose(0);
        x.crack(0);
        x.pace(0, 6);
        x.crack(0);
        x.edge(1999);
        x.lays(0);
        x.lays(1);
        x.sheet(0, 8, -1);
        x.undo();
        int[] due = {4, 2, 3, 1, 1, 2, 1};
        int all = 0;
        for (int which = 0; which <= 6; which++) {
            c.due("status(" + which + ")", x.status(which), due[which]);
            all += due[which];
        }
        c.due("status(-1)", x.status(-1), all);
        x.town();
        c.due("a fault of the text is no finding", x.status(-1), all);
    }
}
