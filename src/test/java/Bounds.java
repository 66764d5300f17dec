import java.util.List;

/**
 * Tests at the bounds that the document names. Each check is told by its
 * promise. A refused call must answer its finding, be counted by status() once
 * and under that finding alone, and leave all else as it was: two towns are
 * built alike, one is asked, and then both are looked at.
 */
final class Bounds {
    interface Town {
        void build(GlacierStreets x);
    }

    interface Call {
        long ask(GlacierStreets x);
    }

    interface CallWith {
        long ask(GlacierStreets x, int v);
    }

    private static final int FINDINGS = 7;

    private final Checker c;
    private String promise = "";
    private boolean changesNothing;

    Bounds(String name) {
        c = new Checker(name);
    }

    /** What follows is of a promise whose call may change what there is. */
    void act(int number, String name) {
        promise = "promise " + number + ", " + name + ": ";
        changesNothing = false;
    }

    /** What follows is of a promise whose call only tells. */
    void question(int number, String name) {
        act(number, name);
        changesNothing = true;
    }

    /** The call is no finding, whatever number it answers. */
    void takes(String what, Town town, Call call, long due) {
        GlacierStreets asked = built(town);
        GlacierStreets calm = built(town);
        c.due(promise + what, call.ask(asked), due);
        c.due(promise + what + ", then status(-1)", asked.status(-1), calm.status(-1));
        if (changesNothing) {
            same(what, asked, calm);
        }
    }

    /** Acts that are no findings, and what is seen then. */
    void then(String what, Town town, Town acts, Call look, long due) {
        GlacierStreets x = built(town);
        int findings = x.status(-1);
        acts.build(x);
        c.due(promise + what, look.ask(x), due);
        c.due(promise + what + ", then status(-1)", x.status(-1), findings);
    }

    void refuses(String what, Town town, Call call, long finding) {
        GlacierStreets asked = built(town);
        GlacierStreets calm = built(town);
        c.due(promise + what, call.ask(asked), finding);
        for (int which = -1; which < FINDINGS; which++) {
            boolean counts = which < 0 || which == Checker.BEYOND - finding;
            c.due(promise + what + ", then status(" + which + ")",
                asked.status(which), calm.status(which) + (counts ? 1 : 0));
        }
        same(what, asked, calm);
    }

    /** The call takes an argument from the least to the most, and is BEYOND on either side of them. */
    void within(String what, Town town, CallWith call, int least, long dueLeast, int most, long dueMost) {
        takes(what + " at " + least, town, x -> call.ask(x, least), dueLeast);
        takes(what + " at " + most, town, x -> call.ask(x, most), dueMost);
        beyond(what, town, call, least - 1, most + 1, Integer.MIN_VALUE, Integer.MAX_VALUE);
    }

    void beyond(String what, Town town, CallWith call, int... values) {
        for (int v : values) {
            refuses(what + " at " + v, town, x -> call.ask(x, v), Checker.BEYOND);
        }
    }

    /** A text that is the tape: how many items it has; nothing of it is a finding. */
    void text(String text, Town town, int items) {
        GlacierStreets x = built(town);
        int findings = x.status(-1);
        x.wipe();
        c.due(promise + "'" + text + "'", Checker.town(x, text), items);
        c.due(promise + "'" + text + "', then count(3)", x.count(3), 0);
        c.due(promise + "'" + text + "', then status(-1)", x.status(-1), findings);
    }

    /** A text with a fault: its place, and nothing changes but that the tape is empty. */
    void fault(String text, Town town, int place) {
        GlacierStreets asked = built(town);
        GlacierStreets calm = built(town);
        asked.wipe();
        calm.wipe();
        c.due(promise + "'" + text + "'", Checker.town(asked, text), -1 - place);
        c.due(promise + "'" + text + "', then status(-1)", asked.status(-1), calm.status(-1));
        same("'" + text + "'", asked, calm);
    }

    /** Two towns, built each in its way, that nothing tells from one another. */
    void alike(String what, Town one, Town other) {
        GlacierStreets x = built(one);
        GlacierStreets y = built(other);
        for (int which = -1; which < FINDINGS; which++) {
            c.due(promise + what + ", then status(" + which + ")", x.status(which), y.status(which));
        }
        same(what, x, y);
    }

    void end() {
        c.end();
    }

    private void same(String what, GlacierStreets asked, GlacierStreets calm) {
        List<String> now = Sight.of(asked);
        List<String> due = Sight.of(calm);
        for (int i = 0; i < Math.max(now.size(), due.size()); i++) {
            String is = i < now.size() ? now.get(i) : "nothing";
            String was = i < due.size() ? due.get(i) : "nothing";
            if (!is.equals(was)) {
                c.holds(promise + what + ", then " + is + " where it was " + was + ", that nothing changes,", false);
                return;
            }
        }
    }

    private static GlacierStreets built(Town town) {
        GlacierStreets x = new GlacierStreets();
        town.build(x);
        return x;
    }
}
