/**
 * Streets on a glacier: a town on ice that goes faster in the middle.
 *
 * <p>No call throws: what a call can't do, it answers by a finding (a number
 * below -1000000000), and then nothing has changed but status().
 */
public final class GlacierStreets {

    private static final int BEYOND = -1000000001;
    private static final int FULL = -1000000002;
    private static final int KIND = -1000000003;
    private static final int NONE = -1000000004;
    private static final int STATE = -1000000005;
    private static final int MISSING = -1000000006;
    private static final int SIZE = -1000000007;
    private static final int FINDINGS = 7;

    private static final int LANES = 9;
    private static final int MIDDLE = 4;
    private static final int LEAST_EDGE = 100;
    private static final int MOST_EDGE = 9999;
    private static final int FIRST_EDGE = 2000;
    private static final int MOST_PACE = 60;
    private static final int SEASONS = 7;
    private static final int LAST_YEAR = 999;
    private static final int CRACKING_STRAIN = 100;

    private static final int ROPED = 1;
    private static final int SLEDGE = 2;
    private static final int CHURCH = 3;
    private static final int FERRY = 4;
    private static final int DEEP = 5;
    private static final int KINDS = 6;
    /** The kind that each kind is under; -1 for the topmost. */
    private static final int[] UNDER = {-1, 0, 0, ROPED, SLEDGE, 0};

    private static final int MOST_HOUSES = 12;
    private static final int ALL_HOUSES = (1 << MOST_HOUSES) - 1;
    private static final int FIRST_HOLD = 5;
    private static final int MOST_HOLD = 99;
    private static final int FERRY_MORE = 3;
    private static final int BESIDE_FEET = 30;
    private static final int STRAIGHT_FEET = 5;
    private static final int MOST_HAUL = 9999;

    private static final int MOST_DEEDS = 10;
    private static final int MOST_DEED_FEET = 999;
    private static final int MOST_STAKES = 10;
    private static final int MOST_STAKE_YEARS = 60;
    private static final int MOST_STAKE_FEET = 9999;

    private static final int MOST_GOING = 50;
    private static final int FAR_AHEAD = 200;
    private static final int NEAR_AHEAD = 60;
    private static final int LOST_AHEAD = 400;

    private static final int MOST_BYTES = 120;
    private static final int BYTES_OF_INT = 4;
    private static final int MOST_NUMBER = 9999;

    private static final int SHEETS = 4;
    private static final int MOST_ON_SHEET = 40;

    private final Town here;
    private final Town kept;
    private final Houses later;
    private final Street street;
    private final TextReader reader;
    private final Sheet[] sheets;
    private final int[] findings;
    private boolean keeps;

    public GlacierStreets() {
        here = new Town();
        kept = new Town();
        later = new Houses();
        street = new Street();
        reader = new TextReader();
        sheets = new Sheet[SHEETS];
        for (int s = 0; s < SHEETS; s++) {
            sheets[s] = new Sheet();
        }
        findings = new int[FINDINGS];
        keeps = false;
    }

    // ---- ice

    public int edge(int v) {
        if (!within(v, LEAST_EDGE, MOST_EDGE)) {
            return refuse(BEYOND);
        }
        if (here.houses.anyAtOrPast(v)) {
            return refuse(STATE);
        }
        int was = here.ice.edge;
        here.ice.edge = v;
        return was;
    }

    public int pace(int lane, int v) {
        if (!isLane(lane) || !within(v, 0, MOST_PACE)) {
            return refuse(BEYOND);
        }
        int was = here.ice.paces[lane];
        here.ice.paces[lane] = v;
        return was;
    }

    public int warm(int set) {
        if (!within(set, 0, (1 << SEASONS) - 1)) {
            return refuse(BEYOND);
        }
        int was = here.ice.warm;
        here.ice.warm = set;
        return was;
    }

    public int goes(int lane, int year) {
        if (!isLane(lane) || !within(year, 0, LAST_YEAR)) {
            return refuse(BEYOND);
        }
        return here.ice.flow(lane, year);
    }

    public int strain(int lane, int year) {
        if (!within(lane, 0, LANES - 2) || !within(year, 0, LAST_YEAR)) {
            return refuse(BEYOND);
        }
        return here.ice.shear(lane, year);
    }

    public int crack(int lane) {
        if (!within(lane, 0, LANES - 2)) {
            return refuse(BEYOND);
        }
        int together = 0;
        for (int year = 0; year <= LAST_YEAR; year++) {
            together += here.ice.shear(lane, year);
            if (together >= CRACKING_STRAIN) {
                return year;
            }
        }
        return refuse(NONE);
    }

    // ---- houses

    public int house(int kind, int lane, int feet) {
        if (!isKind(kind) || !isLane(lane) || !isOnIce(feet)) {
            return refuse(BEYOND);
        }
        if (here.houses.many >= MOST_HOUSES) {
            return refuse(FULL);
        }
        return here.houses.build(kind, lane, feet, FIRST_HOLD);
    }

    public int of(int house, int what) {
        if (!isHouse(house)) {
            return refuse(BEYOND);
        }
        switch (what) {
            case 0:
                return here.houses.kinds[house];
            case 1:
                return here.houses.lanes[house];
            case 2:
                return here.houses.feet[house];
            case 3:
                return here.houses.holds[house];
            case 4:
                return here.houses.gone[house] ? 1 : 0;
            case 5:
                return here.houses.strideOf(house, here.ice, here.ice.year);
            default:
                return refuse(BEYOND);
        }
    }

    public int hold(int house, int v) {
        if (!isHouse(house) || !within(v, 0, MOST_HOLD)) {
            return refuse(BEYOND);
        }
        int was = here.houses.holds[house];
        here.houses.holds[house] = v;
        return was;
    }

    public int as(int house, int kind) {
        if (!isHouse(house) || !isKind(kind)) {
            return refuse(BEYOND);
        }
        if (!isOrIsUnder(here.houses.kinds[house], kind)) {
            return refuse(KIND);
        }
        return here.houses.feet[house];
    }

    public int turn(int house, int kind) {
        if (!isHouse(house) || !isKind(kind)) {
            return refuse(BEYOND);
        }
        int was = here.houses.kinds[house];
        here.houses.kinds[house] = kind;
        return was;
    }

    public int haul(int house, int n) {
        if (!isHouse(house) || !within(n, 1, MOST_HAUL)) {
            return refuse(BEYOND);
        }
        if (here.houses.gone[house]) {
            return refuse(STATE);
        }
        int back = Math.min(n, here.houses.feet[house]);
        here.houses.feet[house] -= back;
        return back;
    }

    public int years(int n) {
        if (!within(n, 1, MOST_GOING)) {
            return refuse(BEYOND);
        }
        if (isPastLastYear(n)) {
            return refuse(STATE);
        }
        int went = 0;
        for (int i = 0; i < n; i++) {
            went += here.goOneYear();
        }
        return went;
    }

    public int now(int what) {
        switch (what) {
            case 0:
                return here.ice.year;
            case 1:
                return here.ice.edge;
            case 2:
                return here.ice.warm;
            case 3:
                return here.houses.howManyStand();
            default:
                return refuse(BEYOND);
        }
    }

    // ---- ahead

    public int ahead(int house, int n) {
        if (!isHouse(house) || !within(n, 0, FAR_AHEAD)) {
            return refuse(BEYOND);
        }
        if (isPastLastYear(n)) {
            return refuse(STATE);
        }
        lookAhead(1 << house, n);
        return later.feet[house];
    }

    public int over(int house) {
        if (!isHouse(house)) {
            return refuse(BEYOND);
        }
        if (here.houses.gone[house] || isPastLastYear(FAR_AHEAD)) {
            return refuse(STATE);
        }
        later.takeFrom(here.houses);
        for (int n = 1; n <= FAR_AHEAD; n++) {
            later.goYear(here.ice, here.ice.year + n - 1, 1 << house);
            if (later.gone[house]) {
                return n;
            }
        }
        return refuse(NONE);
    }

    public int cost(int n) {
        if (!within(n, 1, NEAR_AHEAD)) {
            return refuse(BEYOND);
        }
        if (isPastLastYear(n)) {
            return refuse(STATE);
        }
        later.takeFrom(here.houses);
        int all = 0;
        for (int i = 0; i < n; i++) {
            all += later.goHauledYear(here.ice, here.ice.year + i);
        }
        return all;
    }

    public int safe(int kind, int lane, int n) {
        if (!isKind(kind) || !isLane(lane) || !within(n, 1, NEAR_AHEAD)) {
            return refuse(BEYOND);
        }
        if (isPastLastYear(n)) {
            return refuse(STATE);
        }
        int feet = here.ice.edge - 1;
        for (int i = 0; i < n; i++) {
            feet -= here.ice.stride(kind, lane, FIRST_HOLD, here.ice.year + i);
        }
        return feet < 0 ? refuse(NONE) : feet;
    }

    // ---- neighbours, streets

    public int beside(int house) {
        if (!isHouse(house)) {
            return refuse(BEYOND);
        }
        if (here.houses.gone[house]) {
            return refuse(STATE);
        }
        return here.houses.neighboursOf(house);
    }

    public int till(int one, int other) {
        if (!isHouse(one) || !isHouse(other) || one == other) {
            return refuse(BEYOND);
        }
        if (isPastLastYear(FAR_AHEAD)) {
            return refuse(STATE);
        }
        later.takeFrom(here.houses);
        for (int n = 0; n <= FAR_AHEAD; n++) {
            if (!later.areNeighbours(one, other)) {
                return n;
            }
            later.goYear(here.ice, here.ice.year + n, (1 << one) | (1 << other));
        }
        return FAR_AHEAD + 1;
    }

    public int straight(int set, int n) {
        if (!isSetOfHouses(set) || !within(n, 0, FAR_AHEAD)) {
            return refuse(BEYOND);
        }
        if (isPastLastYear(n)) {
            return refuse(STATE);
        }
        lookAhead(set, n);
        return liesStraightLater(set) ? 1 : 0;
    }

    public int when(int set) {
        if (!isSetOfHouses(set)) {
            return refuse(BEYOND);
        }
        if (isPastLastYear(NEAR_AHEAD)) {
            return refuse(STATE);
        }
        later.takeFrom(here.houses);
        for (int n = 0; n <= NEAR_AHEAD; n++) {
            if (liesStraightLater(set)) {
                return n;
            }
            later.goYear(here.ice, here.ice.year + n, set);
        }
        return refuse(NONE);
    }

    public int lay(int house, int lane, int n) {
        if (!isHouse(house) || !isLane(lane) || !within(n, 0, NEAR_AHEAD)) {
            return refuse(BEYOND);
        }
        if (isPastLastYear(n)) {
            return refuse(STATE);
        }
        lookAhead(1 << house, n);
        if (later.gone[house]) {
            return refuse(STATE);
        }
        return later.feet[house] - here.ice.wayAt(here.ice.paces[lane], here.ice.year, n);
    }

    // ---- deeds, stakes, the lost

    public int deed(int house, int feet) {
        if (!isHouse(house) || !within(feet, -MOST_DEED_FEET, MOST_DEED_FEET)) {
            return refuse(BEYOND);
        }
        if (here.houses.gone[house]) {
            return refuse(STATE);
        }
        if (here.deeds.many >= MOST_DEEDS) {
            return refuse(FULL);
        }
        return here.deeds.tell(here.houses.lanes[house], here.houses.feet[house] + feet);
    }

    public int deedOf(int deed, int what) {
        if (!isDeed(deed)) {
            return refuse(BEYOND);
        }
        switch (what) {
            case 0:
                return here.deeds.lanes[deed];
            case 1:
                return here.deeds.placeOf(deed, here.ice);
            default:
                return refuse(BEYOND);
        }
    }

    public int whose(int deed) {
        if (!isDeed(deed)) {
            return refuse(BEYOND);
        }
        int house = here.houses.nearest(here.deeds.lanes[deed], here.deeds.placeOf(deed, here.ice));
        return house < 0 ? refuse(NONE) : house;
    }

    public int meet(int one, int other, int n) {
        if (!isDeed(one) || !isDeed(other) || one == other || !within(n, 0, MOST_DEED_FEET)) {
            return refuse(BEYOND);
        }
        if (here.deeds.lanes[one] != here.deeds.lanes[other]) {
            return 0;
        }
        int apart = here.deeds.placeOf(one, here.ice) - here.deeds.placeOf(other, here.ice);
        return Math.abs(apart) <= n ? 1 : 0;
    }

    public int stake(int lane, int year, int n, int went) {
        if (!isLane(lane) || !within(year, 0, LAST_YEAR)) {
            return refuse(BEYOND);
        }
        if (!within(n, 1, MOST_STAKE_YEARS) || !within(went, 0, MOST_STAKE_FEET)) {
            return refuse(BEYOND);
        }
        if (here.stakes.many >= MOST_STAKES) {
            return refuse(FULL);
        }
        return here.stakes.drive(lane, year, n, went);
    }

    public int learnt(int lane, int what) {
        if (!isLane(lane) || !within(what, 0, 2)) {
            return refuse(BEYOND);
        }
        int least = -1;
        int greatest = -1;
        int many = 0;
        for (int pace = 0; pace <= MOST_PACE; pace++) {
            if (here.stakes.fit(lane, pace, here.ice)) {
                least = many == 0 ? pace : least;
                greatest = pace;
                many++;
            }
        }
        if (what == 2) {
            return many;
        }
        if (many == 0) {
            return refuse(NONE);
        }
        return what == 0 ? least : greatest;
    }

    public int lost(int lane, int feet) {
        if (!isLane(lane) || !isOnIce(feet)) {
            return refuse(BEYOND);
        }
        if (isPastLastYear(LOST_AHEAD)) {
            return refuse(STATE);
        }
        int at = feet;
        for (int n = 1; n <= LOST_AHEAD; n++) {
            at += here.ice.stride(DEEP, lane, 0, here.ice.year + n - 1);
            if (at >= here.ice.edge) {
                return n;
            }
        }
        return refuse(NONE);
    }

    // ---- the text

    public int feed(int bytes, int n) {
        if (!within(n, 1, BYTES_OF_INT)) {
            return refuse(BEYOND);
        }
        if (reader.many + n > MOST_BYTES) {
            return refuse(FULL);
        }
        for (int i = n - 1; i >= 0; i--) {
            reader.put((bytes >>> (8 * i)) & 255);
        }
        return reader.many;
    }

    public int wipe() {
        int had = reader.many;
        reader.many = 0;
        return had;
    }

    public int town() {
        reader.draft.takeFrom(here);
        int answer = reader.readText();
        if (answer >= 0) {
            here.takeFrom(reader.draft);
        }
        reader.many = 0;
        return answer;
    }

    // ---- sheets

    public int sheet(int s, int bits, int n) {
        if (!isSheet(s) || bits != 0 && bits != 8 && bits != 16 && bits != 64) {
            return refuse(BEYOND);
        }
        if (n < 0) {
            return refuse(SIZE);
        }
        if (n > MOST_ON_SHEET) {
            return refuse(BEYOND);
        }
        sheets[s].begin(bits, bits == 0 ? 0 : n);
        return sheets[s].many;
    }

    public long write(int s, int i, long v) {
        if (!isSheet(s)) {
            return refuse(BEYOND);
        }
        Sheet sheet = sheets[s];
        if (sheet.isMissing()) {
            return refuse(MISSING);
        }
        if (!within(i, 0, sheet.many - 1)) {
            return refuse(BEYOND);
        }
        long was = sheet.numbers[i];
        sheet.put(i, v);
        return was;
    }

    public int copy(int s, int from, int t, int to, int n) {
        if (!isSheet(s) || !isSheet(t)) {
            return refuse(BEYOND);
        }
        Sheet source = sheets[s];
        Sheet target = sheets[t];
        if (source.isMissing() || target.isMissing()) {
            return refuse(MISSING);
        }
        if (source.bits != target.bits) {
            return refuse(KIND);
        }
        if (!source.hasRow(from, n) || !target.hasRow(to, n)) {
            return refuse(BEYOND);
        }
        System.arraycopy(source.numbers, from, target.numbers, to, n);
        return n;
    }

    public int lays(int s) {
        if (!isSheet(s)) {
            return refuse(BEYOND);
        }
        Sheet sheet = sheets[s];
        if (sheet.isMissing()) {
            return refuse(MISSING);
        }
        int came = 0;
        for (int lane = 0; lane < LANES && lane < sheet.many; lane++) {
            long v = sheet.numbers[lane];
            if (v >= 0 && v <= MOST_PACE) {
                here.ice.paces[lane] = (int) v;
                came++;
            }
        }
        return came;
    }

    public int map(int s, int n) {
        int why = whyNoMap(s, n);
        if (why != 0) {
            return refuse(why);
        }
        Sheet sheet = sheets[s];
        lookAhead(ALL_HOUSES, n);
        int many = Math.min(later.many, sheet.many);
        for (int i = 0; i < many; i++) {
            sheet.put(i, later.feet[i]);
        }
        return many;
    }

    public int read(int s, int n) {
        int why = whyNoMap(s, n);
        if (why != 0) {
            return refuse(why);
        }
        Sheet sheet = sheets[s];
        lookAhead(ALL_HOUSES, n);
        int both = Math.min(later.many, sheet.many);
        for (int i = 0; i < both; i++) {
            if (sheet.numbers[i] != later.feet[i]) {
                return 1 + i;
            }
        }
        return later.many == sheet.many ? 0 : 1 + both;
    }

    // ---- images

    public int image() {
        kept.takeFrom(here);
        keeps = true;
        return 1;
    }

    public int undo() {
        if (!keeps) {
            return refuse(NONE);
        }
        here.takeFrom(kept);
        return here.houses.many;
    }

    public int tear() {
        int had = keeps ? 1 : 0;
        keeps = false;
        return had;
    }

    public int count(int what) {
        switch (what) {
            case 0:
                return here.houses.many;
            case 1:
                return here.deeds.many;
            case 2:
                return here.stakes.many;
            case 3:
                return reader.many;
            default:
                return refuse(BEYOND);
        }
    }

    public int status(int which) {
        if (!within(which, -1, FINDINGS - 1)) {
            return refuse(BEYOND);
        }
        if (which >= 0) {
            return findings[which];
        }
        int all = 0;
        for (int i = 0; i < FINDINGS; i++) {
            all += findings[i];
        }
        return all;
    }

    // ---- what the calls share

    /** Counts a finding that a call is about to answer. */
    private int refuse(int finding) {
        int which = BEYOND - finding;
        if (within(which, 0, FINDINGS - 1)) {
            findings[which]++;
        }
        return finding;
    }

    private static boolean within(int v, int least, int most) {
        return v >= least && v <= most;
    }

    private static boolean isLane(int lane) {
        return within(lane, 0, LANES - 1);
    }

    private static boolean isKind(int kind) {
        return within(kind, 0, KINDS - 1);
    }

    private static boolean isSheet(int s) {
        return within(s, 0, SHEETS - 1);
    }

    private static boolean isOrIsUnder(int kind, int above) {
        int at = kind;
        for (int up = 0; up < KINDS && isKind(at); up++) {
            if (at == above) {
                return true;
            }
            at = UNDER[at];
        }
        return false;
    }

    private boolean isHouse(int house) {
        return within(house, 0, here.houses.many - 1);
    }

    private boolean isDeed(int deed) {
        return within(deed, 0, here.deeds.many - 1);
    }

    private boolean isOnIce(int feet) {
        return within(feet, 0, here.ice.edge - 1);
    }

    /** A street takes two houses at least, and all of them must be there. */
    private boolean isSetOfHouses(int set) {
        return within(set, 0, (1 << here.houses.many) - 1) && Integer.bitCount(set) >= 2;
    }

    private boolean isPastLastYear(int n) {
        return here.ice.year + n > LAST_YEAR;
    }

    /** The houses of a set go n years on in a copy; the others stand still there. */
    private void lookAhead(int set, int n) {
        later.takeFrom(here.houses);
        for (int i = 0; i < n; i++) {
            later.goYear(here.ice, here.ice.year + i, set);
        }
    }

    private boolean liesStraightLater(int set) {
        street.clear();
        for (int h = 0; h < later.many; h++) {
            if (((set >> h) & 1) != 0) {
                if (later.gone[h]) {
                    return false;
                }
                street.add(later.lanes[h], later.feet[h]);
            }
        }
        return street.liesStraight();
    }

    /** What map() and read() refuse alike: the finding, or 0. */
    private int whyNoMap(int s, int n) {
        if (!isSheet(s)) {
            return BEYOND;
        }
        if (sheets[s].isMissing()) {
            return MISSING;
        }
        if (!within(n, 0, FAR_AHEAD)) {
            return BEYOND;
        }
        return isPastLastYear(n) ? STATE : 0;
    }

    /** The ice: how fast each lane goes, in which years faster, and where it ends. */
    private static final class Ice {
        int edge;
        int warm;
        int year;
        final int[] paces;

        Ice() {
            edge = FIRST_EDGE;
            warm = 0;
            year = 0;
            paces = new int[LANES];
            for (int lane = 0; lane < LANES; lane++) {
                paces[lane] = 4 * Math.min(lane, LANES - 1 - lane) + 2;
            }
        }

        void takeFrom(Ice other) {
            edge = other.edge;
            warm = other.warm;
            year = other.year;
            System.arraycopy(other.paces, 0, paces, 0, LANES);
        }

        private boolean isWarm(int in) {
            return ((warm >> (in % SEASONS)) & 1) != 0;
        }

        int flow(int lane, int in) {
            int pace = paces[lane];
            return isWarm(in) ? pace + pace / 2 : pace;
        }

        int shear(int lane, int in) {
            return Math.abs(flow(lane, in) - flow(lane + 1, in));
        }

        /** How far a pace leads in n years; whole weeks of years have as many warm ones as the set. */
        int wayAt(int pace, int from, int n) {
            int warmYears = n / SEASONS * Integer.bitCount(warm);
            for (int i = 0; i < n % SEASONS; i++) {
                if (isWarm(from + i)) {
                    warmYears++;
                }
            }
            return n * pace + warmYears * (pace / 2);
        }

        int stride(int kind, int lane, int hold, int in) {
            int own = flow(lane, in);
            switch (kind) {
                case ROPED:
                    return Math.max(0, own - hold);
                case SLEDGE:
                    return Math.max(own, flow(nearerMiddle(lane), in));
                case CHURCH:
                    return in % 2 == 0 ? 0 : Math.max(0, own - hold);
                case FERRY:
                    return Math.max(own, flow(nearerMiddle(lane), in)) + FERRY_MORE;
                case DEEP:
                    return own / 2;
                default:
                    return own;
            }
        }

        private static int nearerMiddle(int lane) {
            if (lane == MIDDLE) {
                return lane;
            }
            return lane < MIDDLE ? lane + 1 : lane - 1;
        }
    }

    /** Houses by their numbers, as they are now or, in a copy, as they will be. */
    private static final class Houses {
        int many;
        final int[] kinds;
        final int[] lanes;
        final int[] feet;
        final int[] holds;
        final boolean[] gone;

        Houses() {
            many = 0;
            kinds = new int[MOST_HOUSES];
            lanes = new int[MOST_HOUSES];
            feet = new int[MOST_HOUSES];
            holds = new int[MOST_HOUSES];
            gone = new boolean[MOST_HOUSES];
        }

        void takeFrom(Houses other) {
            many = other.many;
            for (int h = 0; h < many; h++) {
                kinds[h] = other.kinds[h];
                lanes[h] = other.lanes[h];
                feet[h] = other.feet[h];
                holds[h] = other.holds[h];
                gone[h] = other.gone[h];
            }
        }

        /** The caller has seen that there is room. */
        int build(int kind, int lane, int at, int hold) {
            kinds[many] = kind;
            lanes[many] = lane;
            feet[many] = at;
            holds[many] = hold;
            gone[many] = false;
            many++;
            return many - 1;
        }

        int howManyStand() {
            int stand = 0;
            for (int h = 0; h < many; h++) {
                if (!gone[h]) {
                    stand++;
                }
            }
            return stand;
        }

        boolean anyAtOrPast(int edge) {
            for (int h = 0; h < many; h++) {
                if (!gone[h] && feet[h] >= edge) {
                    return true;
                }
            }
            return false;
        }

        int strideOf(int house, Ice ice, int in) {
            if (gone[house]) {
                return 0;
            }
            return ice.stride(kinds[house], lanes[house], holds[house], in);
        }

        /** A year goes for the houses of a set: how many of them go over the edge. */
        int goYear(Ice ice, int in, int set) {
            int went = 0;
            for (int h = 0; h < many; h++) {
                if (((set >> h) & 1) == 0 || gone[h]) {
                    continue;
                }
                feet[h] += strideOf(h, ice, in);
                if (feet[h] >= ice.edge) {
                    feet[h] = ice.edge;
                    gone[h] = true;
                    went++;
                }
            }
            return went;
        }

        /** A year goes in which none may go over the edge: by how many feet it took to haul. */
        int goHauledYear(Ice ice, int in) {
            int hauled = 0;
            for (int h = 0; h < many; h++) {
                if (!gone[h]) {
                    int end = feet[h] + strideOf(h, ice, in);
                    feet[h] = Math.min(end, ice.edge - 1);
                    hauled += end - feet[h];
                }
            }
            return hauled;
        }

        boolean areNeighbours(int one, int other) {
            return !gone[one] && !gone[other]
                && Math.abs(lanes[one] - lanes[other]) <= 1
                && Math.abs(feet[one] - feet[other]) <= BESIDE_FEET;
        }

        int neighboursOf(int house) {
            int set = 0;
            for (int h = 0; h < many; h++) {
                if (h != house && areNeighbours(house, h)) {
                    set |= 1 << h;
                }
            }
            return set;
        }

        /** The house in a lane that stands nearest to a place, or -1. */
        int nearest(int lane, int place) {
            int best = -1;
            int bestOff = 0;
            for (int h = 0; h < many; h++) {
                if (gone[h] || lanes[h] != lane) {
                    continue;
                }
                int off = Math.abs(feet[h] - place);
                if (best < 0 || off < bestOff) {
                    best = h;
                    bestOff = off;
                }
            }
            return best;
        }
    }

    /** Points in the ice; they go on beyond the edge, and only their place stops there. */
    private static final class Deeds {
        int many;
        final int[] lanes;
        private final int[] points;

        Deeds() {
            many = 0;
            lanes = new int[MOST_DEEDS];
            points = new int[MOST_DEEDS];
        }

        void takeFrom(Deeds other) {
            many = other.many;
            System.arraycopy(other.lanes, 0, lanes, 0, MOST_DEEDS);
            System.arraycopy(other.points, 0, points, 0, MOST_DEEDS);
        }

        /** The caller has seen that there is room. */
        int tell(int lane, int point) {
            lanes[many] = lane;
            points[many] = point;
            many++;
            return many - 1;
        }

        int placeOf(int deed, Ice ice) {
            return Math.min(points[deed], ice.edge);
        }

        void goYear(Ice ice, int in) {
            for (int d = 0; d < many; d++) {
                points[d] += ice.flow(lanes[d], in);
            }
        }
    }

    /** What was measured of the lanes; it binds no lane, only what can be learnt of it. */
    private static final class Stakes {
        int many;
        private final int[] lanes;
        private final int[] firsts;
        private final int[] spans;
        private final int[] ways;

        Stakes() {
            many = 0;
            lanes = new int[MOST_STAKES];
            firsts = new int[MOST_STAKES];
            spans = new int[MOST_STAKES];
            ways = new int[MOST_STAKES];
        }

        void takeFrom(Stakes other) {
            many = other.many;
            System.arraycopy(other.lanes, 0, lanes, 0, MOST_STAKES);
            System.arraycopy(other.firsts, 0, firsts, 0, MOST_STAKES);
            System.arraycopy(other.spans, 0, spans, 0, MOST_STAKES);
            System.arraycopy(other.ways, 0, ways, 0, MOST_STAKES);
        }

        /** The caller has seen that there is room. */
        int drive(int lane, int first, int span, int way) {
            lanes[many] = lane;
            firsts[many] = first;
            spans[many] = span;
            ways[many] = way;
            many++;
            return many - 1;
        }

        boolean fit(int lane, int pace, Ice ice) {
            for (int s = 0; s < many; s++) {
                if (lanes[s] == lane && ice.wayAt(pace, firsts[s], spans[s]) != ways[s]) {
                    return false;
                }
            }
            return true;
        }
    }

    /** All that an image keeps. */
    private static final class Town {
        final Ice ice;
        final Houses houses;
        final Deeds deeds;
        final Stakes stakes;

        Town() {
            ice = new Ice();
            houses = new Houses();
            deeds = new Deeds();
            stakes = new Stakes();
        }

        void takeFrom(Town other) {
            ice.takeFrom(other.ice);
            houses.takeFrom(other.houses);
            deeds.takeFrom(other.deeds);
            stakes.takeFrom(other.stakes);
        }

        int goOneYear() {
            int went = houses.goYear(ice, ice.year, ALL_HOUSES);
            deeds.goYear(ice, ice.year);
            ice.year++;
            return went;
        }
    }

    /** The least and the greatest feet in each lane: all that decides whether houses lie straight. */
    private static final class Street {
        private final int[] least;
        private final int[] greatest;
        private final boolean[] built;

        Street() {
            least = new int[LANES];
            greatest = new int[LANES];
            built = new boolean[LANES];
        }

        void clear() {
            for (int lane = 0; lane < LANES; lane++) {
                built[lane] = false;
            }
        }

        void add(int lane, int feet) {
            least[lane] = built[lane] ? Math.min(least[lane], feet) : feet;
            greatest[lane] = built[lane] ? Math.max(greatest[lane], feet) : feet;
            built[lane] = true;
        }

        boolean liesStraight() {
            // no difference of feet reaches these, so without one low stays above high
            int low = MOST_EDGE;
            int high = -MOST_EDGE;
            for (int lane = 0; lane < LANES; lane++) {
                if (built[lane] && greatest[lane] - least[lane] > STRAIGHT_FEET) {
                    return false;
                }
                if (lane > 0 && built[lane] && built[lane - 1]) {
                    low = Math.min(low, least[lane] - greatest[lane - 1]);
                    high = Math.max(high, greatest[lane] - least[lane - 1]);
                }
            }
            return high - low <= STRAIGHT_FEET;
        }
    }

    /**
     * The tape, and the reader of its text. It reads into a draft, so that a
     * fault leaves the town as it was. Each reading method stops at the token
     * that can't stand there: the fault is always where the token at hand begins.
     */
    private static final class TextReader {
        private static final int END = 0;
        private static final int WORD = 1;
        private static final int NUMBER = 2;
        private static final int SIGN = 3;
        private static final int STRANGE = 4;

        int many;
        final Town draft;
        private final int[] bytes;
        private int token;
        private int begin;
        private int end;
        private int number;

        TextReader() {
            many = 0;
            draft = new Town();
            bytes = new int[MOST_BYTES];
            token = END;
            begin = 0;
            end = 0;
            number = 0;
        }

        /** The caller has seen that there is room. */
        void put(int b) {
            bytes[many] = b;
            many++;
        }

        /** How many items there are, or -1 less the place of the fault. */
        int readText() {
            end = 0;
            for (int items = 1; items <= MOST_BYTES; items++) {
                nextToken();
                if (!readItem()) {
                    return -1 - begin;
                }
                if (token == END) {
                    return items;
                }
                if (token != SIGN) {
                    return -1 - begin;
                }
            }
            return -1 - begin;
        }

        /** Reads an item and the token behind it. */
        private boolean readItem() {
            if (isWord("edge")) {
                return readEdge();
            }
            if (isWord("pace")) {
                return readPace();
            }
            if (isWord("warm")) {
                return readWarm();
            }
            if (isWord("stake")) {
                return readStake();
            }
            for (int kind = 0; kind < KINDS; kind++) {
                if (isWord(nameOf(kind))) {
                    return readHouse(kind);
                }
            }
            return false;
        }

        private static String nameOf(int kind) {
            switch (kind) {
                case ROPED:
                    return "roped";
                case SLEDGE:
                    return "sledge";
                case CHURCH:
                    return "church";
                case FERRY:
                    return "ferry";
                case DEEP:
                    return "deep";
                default:
                    return "house";
            }
        }

        private boolean readEdge() {
            if (!nextIsNumber(LEAST_EDGE, MOST_EDGE) || draft.houses.anyAtOrPast(number)) {
                return false;
            }
            draft.ice.edge = number;
            nextToken();
            return true;
        }

        private boolean readPace() {
            if (!nextIsNumber(0, LANES - 1)) {
                return false;
            }
            int lane = number;
            if (!nextIsNumber(0, MOST_PACE)) {
                return false;
            }
            draft.ice.paces[lane] = number;
            nextToken();
            return true;
        }

        private boolean readWarm() {
            if (!nextIsNumber(0, SEASONS - 1)) {
                return false;
            }
            int set = 1 << number;
            nextToken();
            for (int i = 0; i < SEASONS && token == NUMBER; i++) {
                // above the one ahead: none of the set is there or above
                if (!within(number, 0, SEASONS - 1) || set >> number != 0) {
                    return false;
                }
                set |= 1 << number;
                nextToken();
            }
            draft.ice.warm = set;
            return true;
        }

        private boolean readHouse(int kind) {
            if (draft.houses.many >= MOST_HOUSES || !nextIsNumber(0, LANES - 1)) {
                return false;
            }
            int lane = number;
            if (!nextIsWord("at") || !nextIsNumber(0, draft.ice.edge - 1)) {
                return false;
            }
            int feet = number;
            int hold = FIRST_HOLD;
            nextToken();
            if (isWord("hold")) {
                if (!nextIsNumber(0, MOST_HOLD)) {
                    return false;
                }
                hold = number;
                nextToken();
            }
            draft.houses.build(kind, lane, feet, hold);
            return true;
        }

        private boolean readStake() {
            if (draft.stakes.many >= MOST_STAKES || !nextIsNumber(0, LANES - 1)) {
                return false;
            }
            int lane = number;
            if (!nextIsWord("from") || !nextIsNumber(0, LAST_YEAR)) {
                return false;
            }
            int first = number;
            if (!nextIsWord("for") || !nextIsNumber(1, MOST_STAKE_YEARS)) {
                return false;
            }
            int span = number;
            if (!nextIsWord("went") || !nextIsNumber(0, MOST_STAKE_FEET)) {
                return false;
            }
            draft.stakes.drive(lane, first, span, number);
            nextToken();
            return true;
        }

        private boolean nextIsNumber(int least, int most) {
            nextToken();
            return token == NUMBER && within(number, least, most);
        }

        private boolean nextIsWord(String word) {
            nextToken();
            return isWord(word);
        }

        private boolean isWord(String word) {
            if (token != WORD || end - begin != word.length()) {
                return false;
            }
            for (int i = 0; i < word.length(); i++) {
                if (bytes[begin + i] != word.charAt(i)) {
                    return false;
                }
            }
            return true;
        }

        private void nextToken() {
            begin = end;
            while (begin < many && bytes[begin] == ' ') {
                begin++;
            }
            end = begin;
            while (end < many && isLetter(bytes[end])) {
                end++;
            }
            if (end > begin) {
                token = WORD;
                return;
            }
            number = 0;
            while (end < many && isDigit(bytes[end])) {
                // what is too much stays so, however many digits come
                number = Math.min(number * 10 + bytes[end] - '0', MOST_NUMBER + 1);
                end++;
            }
            if (end > begin) {
                token = NUMBER;
                return;
            }
            if (begin >= many) {
                token = END;
                return;
            }
            token = bytes[begin] == ';' ? SIGN : STRANGE;
            end = begin + 1;
        }

        private static boolean isLetter(int b) {
            return b >= 'a' && b <= 'z';
        }

        private static boolean isDigit(int b) {
            return b >= '0' && b <= '9';
        }
    }

    /** A row of numbers of 8, 16 or 64 bits; without bits it is missing. */
    private static final class Sheet {
        int bits;
        int many;
        final long[] numbers;

        Sheet() {
            bits = 0;
            many = 0;
            numbers = new long[MOST_ON_SHEET];
        }

        boolean isMissing() {
            return bits == 0;
        }

        void begin(int withBits, int n) {
            bits = withBits;
            many = n;
            for (int i = 0; i < MOST_ON_SHEET; i++) {
                numbers[i] = 0;
            }
        }

        void put(int i, long v) {
            if (bits == 8) {
                numbers[i] = (byte) v;
            } else if (bits == 16) {
                numbers[i] = (short) v;
            } else {
                numbers[i] = v;
            }
        }

        boolean hasRow(int from, int n) {
            return from >= 0 && n >= 0 && n <= many && from <= many - n;
        }
    }
}
