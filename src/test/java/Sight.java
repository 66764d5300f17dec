import java.util.ArrayList;
import java.util.List;

/** All that can be seen of an object, told in rows; the object is spent by it. */
final class Sight {
    private static final int MOST_NUMBERS = 40;

    private final GlacierStreets x;
    private final List<String> rows = new ArrayList<>();

    private Sight(GlacierStreets x) {
        this.x = x;
    }

    static List<String> of(GlacierStreets x) {
        Sight sight = new Sight(x);
        sight.ice("");
        sight.houses("");
        sight.deedsAndStakes("");
        sight.sheets();
        sight.row("town()", x.town());
        sight.ice(" with the town of the tape");
        sight.row("undo()", x.undo());
        sight.ice(" of the image");
        sight.houses(" of the image");
        sight.deedsAndStakes(" of the image");
        sight.row("tear()", x.tear());
        return sight.rows;
    }

    private void row(String what, long is) {
        rows.add(what + " = " + is);
    }

    private void ice(String when) {
        for (int what = 0; what <= 3; what++) {
            row("now(" + what + ")" + when, x.now(what));
            row("count(" + what + ")" + when, x.count(what));
        }
        for (int lane = 0; lane <= 8; lane++) {
            row("goes(" + lane + ", 0)" + when, x.goes(lane, 0));
        }
    }

    private void houses(String when) {
        for (int h = 0; h < x.count(0); h++) {
            for (int what = 0; what <= 4; what++) {
                row("of(" + h + ", " + what + ")" + when, x.of(h, what));
            }
        }
    }

    /** The edge goes as far as can be, that points beyond it are seen too. */
    private void deedsAndStakes(String when) {
        row("edge(9999)" + when, x.edge(9999));
        for (int d = 0; d < x.count(1); d++) {
            row("deedOf(" + d + ", 0)" + when, x.deedOf(d, 0));
            row("deedOf(" + d + ", 1)" + when, x.deedOf(d, 1));
        }
        for (int lane = 0; lane <= 8; lane++) {
            row("learnt(" + lane + ", 1)" + when, x.learnt(lane, 1));
            row("learnt(" + lane + ", 2)" + when, x.learnt(lane, 2));
        }
    }

    /** A number is read by writing another one; a very long one then tells the bits. */
    private void sheets() {
        for (int s = 0; s < 4; s++) {
            long was = 0;
            for (int i = 0; i <= MOST_NUMBERS && was != Checker.BEYOND && was != Checker.MISSING; i++) {
                was = x.write(s, i, 0x123456789ABCDEL);
                row("number " + i + " of sheet " + s, was);
            }
            row("the bits of sheet " + s, x.write(s, 0, 0));
        }
    }
}
