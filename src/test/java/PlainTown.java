import java.util.ArrayList;
import java.util.Arrays;
import java.util.List;
import java.util.regex.Matcher;
import java.util.regex.Pattern;

/**
 * The document told once more, as slowly and plainly as can be, with all of
 * Java's means: ModelTest asks it and the class the same, call by call.
 */
public final class PlainTown {

    /** An act that answers a finding. */
    private static final class Finding extends RuntimeException {
        private static final long serialVersionUID = 1;
        final int answer;

        Finding(int answer) {
            super(null, null, false, false);
            this.answer = answer;
        }
    }

    /** A text that isn't one. */
    private static final class Fault extends RuntimeException {
        private static final long serialVersionUID = 1;
        final int place;

        Fault(int place) {
            super(null, null, false, false);
            this.place = place;
        }
    }

    private static final class House {
        int kind;
        int lane;
        int feet;
        int hold = 5;
        boolean gone;

        House twin() {
            House h = new House();
            h.kind = kind;
            h.lane = lane;
            h.feet = feet;
            h.hold = hold;
            h.gone = gone;
            return h;
        }
    }

    private static final class World {
        int edge = 2000;
        int warm;
        int year;
        int[] paces = {2, 6, 10, 14, 18, 14, 10, 6, 2};
        List<House> houses = new ArrayList<>();
        List<int[]> deeds = new ArrayList<>();
        List<int[]> stakes = new ArrayList<>();

        World twin() {
            World w = new World();
            w.edge = edge;
            w.warm = warm;
            w.year = year;
            w.paces = paces.clone();
            houses.forEach(h -> w.houses.add(h.twin()));
            deeds.forEach(d -> w.deeds.add(d.clone()));
            stakes.forEach(s -> w.stakes.add(s.clone()));
            return w;
        }

        int flow(int pace, int in) {
            return (warm & 1 << in % 7) != 0 ? pace + pace / 2 : pace;
        }

        int step(House h) {
            int own = flow(paces[h.lane], year);
            int beside = h.lane < 4 ? h.lane + 1 : h.lane > 4 ? h.lane - 1 : h.lane;
            int sledge = Math.max(own, flow(paces[beside], year));
            int roped = own > h.hold ? own - h.hold : 0;
            return new int[] {own, roped, sledge, year % 2 == 0 ? 0 : roped, sledge + 3, own / 2}[h.kind];
        }

        int go() {
            int went = 0;
            for (House h : houses) {
                if (!h.gone) {
                    h.feet += step(h);
                    if (h.feet >= edge) {
                        h.feet = edge;
                        h.gone = true;
                        went++;
                    }
                }
            }
            for (int[] d : deeds) {
                d[1] += flow(paces[d[0]], year);
            }
            year++;
            return went;
        }

        World in(int n) {
            World w = twin();
            for (int i = 0; i < n; i++) {
                w.go();
            }
            return w;
        }

        boolean beside(int one, int other) {
            House a = houses.get(one);
            House b = houses.get(other);
            return one != other && !a.gone && !b.gone
                && Math.abs(a.lane - b.lane) < 2 && Math.abs(a.feet - b.feet) < 31;
        }

        boolean straight(int set) {
            List<Integer> differences = new ArrayList<>();
            for (int i = 0; i < houses.size(); i++) {
                for (int k = 0; k < houses.size(); k++) {
                    if ((set & 1 << i) == 0 || (set & 1 << k) == 0) {
                        continue;
                    }
                    House a = houses.get(i);
                    House b = houses.get(k);
                    if (a.gone || b.gone || a.lane == b.lane && Math.abs(a.feet - b.feet) > 5) {
                        return false;
                    }
                    if (a.lane == b.lane + 1) {
                        differences.add(a.feet - b.feet);
                    }
                }
            }
            for (int a : differences) {
                for (int b : differences) {
                    if (a - b > 5) {
                        return false;
                    }
                }
            }
            return true;
        }
    }

    private static final int[] PARENTS = {0, 0, 0, 1, 2, 0};
    private static final List<String> NAMES = List.of("house", "roped", "sledge", "church", "ferry", "deep");

    private World w = new World();
    private World kept;
    private StringBuilder tape = new StringBuilder();
    private final long[][] sheets = new long[4][];
    private final int[] bits = new int[4];
    private final int[] found = new int[7];

    /** An answer of ask(), with its finding counted. */
    public long answer(String name, long[] a) {
        try {
            int[] i = Arrays.stream(a).mapToInt(v -> (int) v).toArray();
            return name.equals("write") ? write(i[0], i[1], a[2]) : ask(name, i);
        } catch (Finding f) {
            found[-1000000001 - f.answer]++;
            return f.answer;
        }
    }

    private static void need(boolean is, int finding) {
        if (!is) {
            throw new Finding(finding);
        }
    }

    private static void in(int v, int least, int most) {
        need(least <= v && v <= most, Checker.BEYOND);
    }

    private House h(int house) {
        in(house, 0, w.houses.size() - 1);
        return w.houses.get(house);
    }

    private void room(int n) {
        need(w.year + n <= 999, Checker.STATE);
    }

    private int ask(String name, int[] a) {
        switch (name) {
            case "edge": case "pace": case "warm": case "goes": case "strain": case "crack":
                return ice(name, a);
            case "house": case "of": case "hold": case "as": case "turn": case "haul": case "years": case "now":
                return houses(name, a);
            case "ahead": case "over": case "cost": case "safe":
                return ahead(name, a);
            case "beside": case "till": case "straight": case "when": case "lay":
                return streets(name, a);
            case "deed": case "deedOf": case "whose": case "meet": case "stake": case "learnt": case "lost":
                return deeds(name, a);
            case "feed": case "wipe": case "town":
                return text(name, a);
            case "sheet": case "copy": case "lays": case "map": case "read":
                return sheets(name, a);
            default:
                return images(name, a);
        }
    }

    private int ice(String name, int[] a) {
        int was;
        switch (name) {
            case "edge":
                in(a[0], 100, 9999);
                need(w.houses.stream().allMatch(x -> x.gone || x.feet < a[0]), Checker.STATE);
                was = w.edge;
                w.edge = a[0];
                return was;
            case "pace":
                in(a[0], 0, 8);
                in(a[1], 0, 60);
                was = w.paces[a[0]];
                w.paces[a[0]] = a[1];
                return was;
            case "warm":
                in(a[0], 0, 127);
                was = w.warm;
                w.warm = a[0];
                return was;
            case "goes":
                in(a[0], 0, 8);
                in(a[1], 0, 999);
                return w.flow(w.paces[a[0]], a[1]);
            case "strain":
                in(a[0], 0, 7);
                in(a[1], 0, 999);
                return Math.abs(w.flow(w.paces[a[0]], a[1]) - w.flow(w.paces[a[0] + 1], a[1]));
            default:
                in(a[0], 0, 7);
                int sum = 0;
                for (int y = 0; y <= 999; y++) {
                    sum += Math.abs(w.flow(w.paces[a[0]], y) - w.flow(w.paces[a[0] + 1], y));
                    if (sum >= 100) {
                        return y;
                    }
                }
                throw new Finding(Checker.NONE);
        }
    }

    private int houses(String name, int[] a) {
        int was;
        switch (name) {
            case "house":
                in(a[0], 0, 5);
                in(a[1], 0, 8);
                in(a[2], 0, w.edge - 1);
                need(w.houses.size() < 12, Checker.FULL);
                House n = new House();
                n.kind = a[0];
                n.lane = a[1];
                n.feet = a[2];
                w.houses.add(n);
                return w.houses.size() - 1;
            case "of":
                in(a[1], 0, 5);
                House x = h(a[0]);
                return new int[] {x.kind, x.lane, x.feet, x.hold, x.gone ? 1 : 0, x.gone ? 0 : w.step(x)}[a[1]];
            case "hold":
                in(a[1], 0, 99);
                was = h(a[0]).hold;
                h(a[0]).hold = a[1];
                return was;
            case "as":
                in(a[1], 0, 5);
                int k = h(a[0]).kind;
                need(k == a[1] || PARENTS[k] == a[1] || PARENTS[PARENTS[k]] == a[1], Checker.KIND);
                return h(a[0]).feet;
            case "turn":
                in(a[1], 0, 5);
                was = h(a[0]).kind;
                h(a[0]).kind = a[1];
                return was;
            case "haul":
                in(a[1], 1, 9999);
                need(!h(a[0]).gone, Checker.STATE);
                was = h(a[0]).feet;
                h(a[0]).feet = was > a[1] ? was - a[1] : 0;
                return was - h(a[0]).feet;
            case "years":
                in(a[0], 1, 50);
                room(a[0]);
                int went = 0;
                for (int i = 0; i < a[0]; i++) {
                    went += w.go();
                }
                return went;
            default:
                in(a[0], 0, 3);
                int stand = (int) w.houses.stream().filter(y -> !y.gone).count();
                return new int[] {w.year, w.edge, w.warm, stand}[a[0]];
        }
    }

    private int ahead(String name, int[] a) {
        switch (name) {
            case "ahead":
                h(a[0]);
                in(a[1], 0, 200);
                room(a[1]);
                return w.in(a[1]).houses.get(a[0]).feet;
            case "over":
                need(!h(a[0]).gone && w.year <= 799, Checker.STATE);
                World then = w.twin();
                for (int n = 1; n <= 200; n++) {
                    then.go();
                    if (then.houses.get(a[0]).gone) {
                        return n;
                    }
                }
                throw new Finding(Checker.NONE);
            case "cost":
                in(a[0], 1, 60);
                room(a[0]);
                World plan = w.twin();
                int cost = 0;
                for (int i = 0; i < a[0]; i++) {
                    for (House x : plan.houses) {
                        while (!x.gone && x.feet + plan.step(x) >= plan.edge) {
                            x.feet--;
                            cost++;
                        }
                    }
                    plan.go();
                }
                return cost;
            default:
                in(a[0], 0, 5);
                in(a[1], 0, 8);
                in(a[2], 1, 60);
                room(a[2]);
                World one = w.twin();
                one.houses.clear();
                House x = new House();
                x.kind = a[0];
                x.lane = a[1];
                one.houses.add(x);
                int lost = one.edge;
                one.edge = 1 << 20;
                int way = one.in(a[2]).houses.get(0).feet;
                need(way < lost, Checker.NONE);
                return lost - 1 - way;
        }
    }

    private void set(int set) {
        need(set > 0 && set < 1 << w.houses.size() && Integer.bitCount(set) > 1, Checker.BEYOND);
    }

    private int streets(String name, int[] a) {
        World then = w.twin();
        switch (name) {
            case "beside":
                need(!h(a[0]).gone, Checker.STATE);
                int set = 0;
                for (int i = 0; i < w.houses.size(); i++) {
                    set += w.beside(a[0], i) ? 1 << i : 0;
                }
                return set;
            case "till":
                h(a[0]);
                h(a[1]);
                need(a[0] != a[1], Checker.BEYOND);
                need(w.year <= 799, Checker.STATE);
                int n = 0;
                while (n <= 200 && then.beside(a[0], a[1])) {
                    then.go();
                    n++;
                }
                return n;
            case "straight":
                set(a[0]);
                in(a[1], 0, 200);
                room(a[1]);
                return w.in(a[1]).straight(a[0]) ? 1 : 0;
            case "when":
                set(a[0]);
                need(w.year <= 939, Checker.STATE);
                for (int k = 0; k <= 60; k++) {
                    if (then.straight(a[0])) {
                        return k;
                    }
                    then.go();
                }
                throw new Finding(Checker.NONE);
            default:
                h(a[0]);
                in(a[1], 0, 8);
                in(a[2], 0, 60);
                room(a[2]);
                then.deeds.clear();
                then.deeds.add(new int[] {a[1], 0});
                then = then.in(a[2]);
                need(!then.houses.get(a[0]).gone, Checker.STATE);
                return then.houses.get(a[0]).feet - then.deeds.get(0)[1];
        }
    }

    private int place(int deed) {
        int at = w.deeds.get(deed)[1];
        return at > w.edge ? w.edge : at;
    }

    private int deeds(String name, int[] a) {
        switch (name) {
            case "deed":
                h(a[0]);
                in(a[1], -999, 999);
                need(!h(a[0]).gone, Checker.STATE);
                need(w.deeds.size() < 10, Checker.FULL);
                w.deeds.add(new int[] {h(a[0]).lane, h(a[0]).feet + a[1]});
                return w.deeds.size() - 1;
            case "deedOf":
                in(a[0], 0, w.deeds.size() - 1);
                in(a[1], 0, 1);
                return a[1] == 0 ? w.deeds.get(a[0])[0] : place(a[0]);
            case "whose":
                in(a[0], 0, w.deeds.size() - 1);
                for (int off = 0; off < 1 << 15; off++) {
                    for (int i = 0; i < w.houses.size(); i++) {
                        House x = w.houses.get(i);
                        if (!x.gone && x.lane == w.deeds.get(a[0])[0] && Math.abs(x.feet - place(a[0])) == off) {
                            return i;
                        }
                    }
                }
                throw new Finding(Checker.NONE);
            case "meet":
                in(a[0], 0, w.deeds.size() - 1);
                in(a[1], 0, w.deeds.size() - 1);
                in(a[2], 0, 999);
                need(a[0] != a[1], Checker.BEYOND);
                boolean one = w.deeds.get(a[0])[0] == w.deeds.get(a[1])[0];
                return one && Math.abs(place(a[0]) - place(a[1])) <= a[2] ? 1 : 0;
            case "stake":
                in(a[0], 0, 8);
                in(a[1], 0, 999);
                in(a[2], 1, 60);
                in(a[3], 0, 9999);
                need(w.stakes.size() < 10, Checker.FULL);
                w.stakes.add(a.clone());
                return w.stakes.size() - 1;
            case "learnt":
                return learnt(a[0], a[1]);
            default:
                in(a[0], 0, 8);
                in(a[1], 0, w.edge - 1);
                need(w.year <= 599, Checker.STATE);
                int at = a[1];
                for (int n = 0; n < 400; n++) {
                    at += w.flow(w.paces[a[0]], w.year + n) / 2;
                    if (at >= w.edge) {
                        return n + 1;
                    }
                }
                throw new Finding(Checker.NONE);
        }
    }

    private int learnt(int lane, int what) {
        in(lane, 0, 8);
        in(what, 0, 2);
        List<Integer> fit = new ArrayList<>();
        for (int p = 0; p <= 60; p++) {
            boolean all = true;
            for (int[] s : w.stakes) {
                int way = 0;
                for (int y = s[1]; y < s[1] + s[2]; y++) {
                    way += w.flow(p, y);
                }
                all &= s[0] != lane || way == s[3];
            }
            if (all) {
                fit.add(p);
            }
        }
        need(what == 2 || !fit.isEmpty(), Checker.NONE);
        return what == 2 ? fit.size() : fit.get(what == 0 ? 0 : fit.size() - 1);
    }

    private int text(String name, int[] a) {
        int had = tape.length();
        switch (name) {
            case "feed":
                in(a[1], 1, 4);
                need(had + a[1] <= 120, Checker.FULL);
                for (int i = 4 - a[1]; i < 4; i++) {
                    tape.append((char) (a[0] >> 24 - 8 * i & 255));
                }
                return tape.length();
            case "wipe":
                tape.setLength(0);
                return had;
            default:
                World before = w.twin();
                String all = tape.toString();
                tape.setLength(0);
                try {
                    return items(all);
                } catch (Fault f) {
                    w = before;
                    return -1 - f.place;
                }
        }
    }

    private List<String> tokens;
    private List<Integer> places;
    private int next;

    private int items(String all) {
        tokens = new ArrayList<>();
        places = new ArrayList<>();
        next = 0;
        Matcher m = Pattern.compile("[a-z]+|[0-9]+|[^ ]", Pattern.DOTALL).matcher(all);
        while (m.find()) {
            tokens.add(m.group());
            places.add(m.start());
        }
        tokens.add("");
        places.add(all.length());
        int items = 0;
        do {
            item(tokens.get(next));
            items++;
        } while (took(";"));
        check(tokens.get(next).isEmpty());
        return items;
    }

    private void check(boolean can) {
        if (!can) {
            throw new Fault(places.get(next));
        }
    }

    private boolean took(String word) {
        if (!tokens.get(next).equals(word)) {
            return false;
        }
        next++;
        return true;
    }

    private void word(String word) {
        check(tokens.get(next).equals(word));
        next++;
    }

    private boolean isNumber() {
        return tokens.get(next).matches("[0-9]+");
    }

    private int number(int least, int most) {
        check(isNumber());
        java.math.BigInteger v = new java.math.BigInteger(tokens.get(next));
        check(v.bitLength() < 20 && v.intValue() >= least && v.intValue() <= most);
        next++;
        return v.intValue();
    }

    private void item(String first) {
        int kind = NAMES.indexOf(first);
        check(kind < 0 || w.houses.size() < 12);
        check(!first.equals("stake") || w.stakes.size() < 10);
        check(kind >= 0 || List.of("edge", "pace", "warm", "stake").contains(first));
        next++;
        if (first.equals("edge")) {
            int most = w.houses.stream().filter(x -> !x.gone).mapToInt(x -> x.feet).max().orElse(0);
            w.edge = number(Math.max(100, most + 1), 9999);
        } else if (first.equals("pace")) {
            int lane = number(0, 8);
            w.paces[lane] = number(0, 60);
        } else if (first.equals("warm")) {
            int v = number(0, 6);
            w.warm = 1 << v;
            while (isNumber()) {
                v = number(v + 1, 6);
                w.warm |= 1 << v;
            }
        } else if (first.equals("stake")) {
            int[] s = new int[4];
            s[0] = number(0, 8);
            word("from");
            s[1] = number(0, 999);
            word("for");
            s[2] = number(1, 60);
            word("went");
            s[3] = number(0, 9999);
            w.stakes.add(s);
        } else {
            House x = new House();
            x.kind = kind;
            x.lane = number(0, 8);
            word("at");
            x.feet = number(0, w.edge - 1);
            if (took("hold")) {
                x.hold = number(0, 99);
            }
            w.houses.add(x);
        }
    }

    private long cut(int s, long v) {
        return bits[s] == 8 ? (byte) v : bits[s] == 16 ? (short) v : v;
    }

    private void there(int s) {
        in(s, 0, 3);
        need(sheets[s] != null, Checker.MISSING);
    }

    private long write(int s, int i, long v) {
        there(s);
        in(i, 0, sheets[s].length - 1);
        long was = sheets[s][i];
        sheets[s][i] = cut(s, v);
        return was;
    }

    private int sheets(String name, int[] a) {
        switch (name) {
            case "sheet":
                in(a[0], 0, 3);
                need(List.of(0, 8, 16, 64).contains(a[1]), Checker.BEYOND);
                need(a[2] >= 0, Checker.SIZE);
                in(a[2], 0, 40);
                sheets[a[0]] = a[1] == 0 ? null : new long[a[2]];
                bits[a[0]] = a[1];
                return a[1] == 0 ? 0 : a[2];
            case "copy":
                in(a[0], 0, 3);
                in(a[2], 0, 3);
                there(a[0]);
                there(a[2]);
                need(bits[a[0]] == bits[a[2]], Checker.KIND);
                need(a[1] >= 0 && a[3] >= 0 && a[4] >= 0, Checker.BEYOND);
                need((long) a[1] + a[4] <= sheets[a[0]].length, Checker.BEYOND);
                need((long) a[3] + a[4] <= sheets[a[2]].length, Checker.BEYOND);
                long[] row = sheets[a[0]].clone();
                for (int i = 0; i < a[4]; i++) {
                    sheets[a[2]][a[3] + i] = row[a[1] + i];
                }
                return a[4];
            case "lays":
                there(a[0]);
                int came = 0;
                for (int lane = 0; lane < 9; lane++) {
                    if (lane < sheets[a[0]].length && sheets[a[0]][lane] >= 0 && sheets[a[0]][lane] <= 60) {
                        w.paces[lane] = (int) sheets[a[0]][lane];
                        came++;
                    }
                }
                return came;
            default:
                there(a[0]);
                in(a[1], 0, 200);
                room(a[1]);
                return name.equals("map") ? map(a[0], w.in(a[1])) : read(a[0], w.in(a[1]));
        }
    }

    private int map(int s, World then) {
        int n = 0;
        while (n < sheets[s].length && n < then.houses.size()) {
            sheets[s][n] = cut(s, then.houses.get(n).feet);
            n++;
        }
        return n;
    }

    private int read(int s, World then) {
        for (int i = 0; i < sheets[s].length; i++) {
            if (i >= then.houses.size() || then.houses.get(i).feet != sheets[s][i]) {
                return 1 + i;
            }
        }
        return sheets[s].length < then.houses.size() ? 1 + sheets[s].length : 0;
    }

    private int images(String name, int[] a) {
        int had = kept == null ? 0 : 1;
        switch (name) {
            case "image":
                kept = w.twin();
                return 1;
            case "undo":
                need(kept != null, Checker.NONE);
                w = kept.twin();
                return w.houses.size();
            case "tear":
                kept = null;
                return had;
            case "count":
                in(a[0], 0, 3);
                return new int[] {w.houses.size(), w.deeds.size(), w.stakes.size(), tape.length()}[a[0]];
            default:
                in(a[0], -1, 6);
                return a[0] < 0 ? Arrays.stream(found).sum() : found[a[0]];
        }
    }
}
