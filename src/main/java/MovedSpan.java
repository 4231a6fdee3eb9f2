import java.util.Arrays;

/** A span at a time: what its calls promise stands in the document, DOC.md. */
public final class MovedSpan {
    public static final int NONE = -1;

    private static final int NO_SUCH = -2;
    private static final int BAD_NUMBER = -3;
    private static final int TOO_MANY = -4;
    private static final int NOT_NOW = -5;
    private static final int TRAY_MISSING = -6;
    private static final int NO_PLACE = -7;
    private static final int LESS_WHY = -10;
    private static final int LESS_FAULT = -30;

    private static final int MOST_BYTES = 900;
    private static final int MOST_GAPS = 4;
    private static final int MOST_HOURS = 6;
    private static final int MOST_PEOPLE = 5;
    private static final int MOST_UNDOING = 10;
    private static final int TRAYS = 4;
    private static final int MOST_NUMBERS = 40;
    private static final int IMAGES = 2;
    private static final int FARTHEST = 60;
    private static final int MOST_SEEN = 12;
    private static final int ODDS = 10;

    private static final int ON_SPAN = 8;
    private static final int SPOTS = 9;
    private static final int RESTING_BIT = 4;

    private static final int STAY = 0;
    private static final int UP = 1;
    private static final int DOWN = 2;
    private static final int CROSS = 3;
    private static final int BOARD = 4;
    private static final int OFF_WEST = 5;
    private static final int OFF_EAST = 6;
    private static final int ACTS = 7;

    private final River river = new River();
    private final State state = new State();
    private final State trial = new State();
    private final Past past = new Past();
    private final byte[] tape = new byte[MOST_BYTES];
    private final Reader reader = new Reader();
    private final Tray[] trays = new Tray[TRAYS];
    private final River[] imagedRivers = new River[IMAGES];
    private final State[] imagedStates = new State[IMAGES];
    private final Ahead ahead = new Ahead(river, state);
    private final Weeks plans = new Weeks(river, state, ahead);
    private final Sightings sightings = new Sightings(river, state);
    private final Chances chances = new Chances(river, state);
    private int fed = 0;
    private int imagesMade = 0;

    public MovedSpan() {
        for (int i = 0; i < TRAYS; i++) {
            trays[i] = new Tray();
        }
        for (int i = 0; i < IMAGES; i++) {
            imagedRivers[i] = new River();
            imagedStates[i] = new State();
        }
    }

    // ---- the river

    public int feed(int a, int b, int c, int d, int e) {
        if (fed + 20 > MOST_BYTES) {
            return NOT_NOW;
        }
        putBytes(a);
        putBytes(b);
        putBytes(c);
        putBytes(d);
        putBytes(e);
        return fed;
    }

    public int river(int n) {
        if (n < 0 || n > fed) {
            return BAD_NUMBER;
        }
        fed = 0;
        int fault = reader.read(tape, n);
        if (fault != 0) {
            return LESS_FAULT - fault;
        }
        river.copyFrom(reader.draft);
        state.begin(river);
        past.forget();
        plans.forget();
        return river.lines;
    }

    public int fault(int what) {
        if (what == 0) {
            return reader.fault;
        }
        return what == 1 ? reader.place : NONE;
    }

    public int span(int n) {
        if (n < 0 || n > 999) {
            return BAD_NUMBER;
        }
        return state.week[river.hourOfWeek(state.hour + n)];
    }

    public int person(int p, int what) {
        if (!river.hasPerson(p)) {
            return NO_SUCH;
        }
        switch (what) {
            case 0:
                return state.spot[p];
            case 1:
                return river.load[p];
            case 2:
                return river.goal[p];
            case 3:
                return river.by[p];
            case 4:
                return state.done >> p & 1;
            case 5:
                return state.told[p];
            default:
                return NO_SUCH;
        }
    }

    public int why(int p, int act) {
        return state.hindrance(river, p, act);
    }

    // ---- deeds

    public int act(int p, int act) {
        int hindrance = state.hindrance(river, p, act);
        if (hindrance != 0) {
            return LESS_WHY - hindrance;
        }
        willChange();
        state.told[p] = act;
        return River.moved(state.spot[p], act, state.lies(river));
    }

    public int tell(int hour, int gap) {
        if (!river.hasHour(hour) || !(gap == NONE || river.hasGap(gap))) {
            return NO_SUCH;
        }
        willChange();
        int lay = state.week[hour];
        state.week[hour] = gap;
        return lay;
    }

    public int fog(int n) {
        if (n < 0 || n > 99) {
            return BAD_NUMBER;
        }
        willChange();
        int was = state.fog;
        state.fog = n;
        return was;
    }

    public int hours(int n) {
        if (n < 1 || n > 48) {
            return BAD_NUMBER;
        }
        willChange();
        int before = Integer.bitCount(state.done);
        for (int i = 0; i < n; i++) {
            state.passHour(river);
        }
        return Integer.bitCount(state.done) - before;
    }

    public int undo(int n) {
        if (n < 1 || n > MOST_UNDOING || n > past.size) {
            return BAD_NUMBER;
        }
        state.copyFrom(past.back(n));
        plans.forget();
        return past.size;
    }

    public int judge(int tray, int what) {
        if (!isTray(tray) || what < 0 || what > 3) {
            return NO_SUCH;
        }
        if (!trays[tray].here) {
            return TRAY_MISSING;
        }
        trial.copyFrom(state);
        int could = trial.doAll(river, trays[tray]);
        boolean all = could >= trays[tray].size;
        switch (what) {
            case 0:
                return all ? NONE : could;
            case 1:
                return all ? 0 : trial.doDeed(river, trays[tray].at(could));
            case 2:
                return trial.done;
            default:
                return trial.hour;
        }
    }

    public int perform(int tray) {
        if (!isTray(tray)) {
            return NO_SUCH;
        }
        if (!trays[tray].here) {
            return TRAY_MISSING;
        }
        trial.copyFrom(state);
        int could = trial.doAll(river, trays[tray]);
        becomeTrial(could);
        return could;
    }

    public int year(int seed, int times) {
        if (times < 1 || times > 40) {
            return BAD_NUMBER;
        }
        trial.copyFrom(state);
        int could = trial.doYear(river, seed, times);
        becomeTrial(could);
        return could;
    }

    // ---- to come

    public int soonest(int p, int spot) {
        if (!river.hasPerson(p) || !river.hasSpot(spot)) {
            return NO_SUCH;
        }
        return ahead.hoursTo(p, spot);
    }

    public int way(int p, int spot, int i) {
        if (!river.hasPerson(p) || !river.hasSpot(spot)) {
            return NO_SUCH;
        }
        if (i < 0) {
            return BAD_NUMBER;
        }
        return i < ahead.findWay(p, spot) ? ahead.actAt(i) : NONE;
    }

    public long ways(int p, int spot, int n) {
        if (!river.hasPerson(p) || !river.hasSpot(spot)) {
            return NO_SUCH;
        }
        if (n < 0 || n > 12) {
            return BAD_NUMBER;
        }
        return ahead.countWays(p, spot, n);
    }

    public int reach(int p, int n) {
        if (!river.hasPerson(p)) {
            return NO_SUCH;
        }
        if (n < 0 || n > FARTHEST) {
            return BAD_NUMBER;
        }
        return ahead.spotsIn(p, n);
    }

    public int meet(int p, int q) {
        if (!river.hasPerson(p) || !river.hasPerson(q) || p == q) {
            return NO_SUCH;
        }
        return ahead.hoursToMeet(p, q);
    }

    public int meetAt(int p, int q) {
        if (!river.hasPerson(p) || !river.hasPerson(q) || p == q) {
            return NO_SUCH;
        }
        int n = ahead.hoursToMeet(p, q);
        if (n == NONE) {
            return NONE;
        }
        return Integer.numberOfTrailingZeros(ahead.spotsIn(p, n) & ahead.spotsIn(q, n));
    }

    // ---- errands

    public int inTime() {
        return plans.doneInTime(state.week);
    }

    public int spare(int p) {
        if (!river.hasPerson(p)) {
            return NO_SUCH;
        }
        if (river.goal[p] == NONE) {
            return NOT_NOW;
        }
        return plans.hoursToSpare(p);
    }

    public int needs(int p) {
        if (!river.hasPerson(p)) {
            return NO_SUCH;
        }
        if (river.goal[p] == NONE) {
            return NOT_NOW;
        }
        return plans.hoursNeeded(p);
    }

    // ---- weeks

    public int moves() {
        return plans.movesOf(state.week);
    }

    public int best(int what) {
        boolean asksHour = what >= 10 && river.hasHour(what - 10);
        if (what != 0 && what != 1 && !asksHour) {
            return NO_SUCH;
        }
        plans.findBest();
        if (asksHour) {
            return plans.best[what - 10];
        }
        return what == 0 ? plans.bestCount : plans.bestMoves;
    }

    public int change() {
        return plans.bestChange();
    }

    public int weeks() {
        return plans.countGood();
    }

    public int shift() {
        return plans.bestShift();
    }

    // ---- seen

    public int fits(int tray, int p, int hour) {
        if (!isTray(tray) || !river.hasPerson(p) || !river.hasHour(hour)) {
            return NO_SUCH;
        }
        int refusal = sightings.take(trays[tray]);
        return refusal != 0 ? refusal : sightings.fitting(p, hour);
    }

    public int surest(int tray, int p) {
        if (!isTray(tray) || !river.hasPerson(p)) {
            return NO_SUCH;
        }
        int refusal = sightings.take(trays[tray]);
        return refusal != 0 ? refusal : sightings.surestHour(p);
    }

    public int odd(int tray, int p) {
        if (!isTray(tray) || !river.hasPerson(p)) {
            return NO_SUCH;
        }
        int refusal = sightings.take(trays[tray]);
        return refusal != 0 ? refusal : sightings.firstBreak(p, state.week);
    }

    // ---- chances

    public long chance(int p, int spot, int n, int what) {
        if (!river.hasPerson(p) || !river.hasSpot(spot) || what < 0 || what > 1) {
            return NO_SUCH;
        }
        if (n < 0 || n > 9) {
            return BAD_NUMBER;
        }
        long above = chances.outOfPower(p, spot, n);
        long below = Chances.power(n);
        long shared = Chances.sharedDivisor(below, above);
        if (shared < 1) {
            return NONE;
        }
        return what == 0 ? above / shared : below / shared;
    }

    public int likely(int p, int spot, int m) {
        if (!river.hasPerson(p) || !river.hasSpot(spot)) {
            return NO_SUCH;
        }
        if (m < 0 || m > 100) {
            return BAD_NUMBER;
        }
        for (int n = 0; n <= 9; n++) {
            if (chances.outOfPower(p, spot, n) * 100 >= m * Chances.power(n)) {
                return n;
            }
        }
        return NONE;
    }

    // ---- trays, images

    public int numbers(int tray, int sort, int n) {
        if (!isTray(tray) || sort < 0 || sort > 3) {
            return NO_SUCH;
        }
        if (n < 0 || n > MOST_NUMBERS) {
            return BAD_NUMBER;
        }
        trays[tray].empty(sort, n);
        return 0;
    }

    public long write(int tray, int i, long v) {
        if (!isTray(tray)) {
            return NO_SUCH;
        }
        if (!trays[tray].here) {
            return TRAY_MISSING;
        }
        if (i < 0 || i >= trays[tray].size) {
            return NO_PLACE;
        }
        return trays[tray].put(i, v);
    }

    public int lists(int tray, int p, int spot) {
        if (!isTray(tray) || !river.hasPerson(p) || !river.hasSpot(spot)) {
            return NO_SUCH;
        }
        if (!trays[tray].here) {
            return TRAY_MISSING;
        }
        int length = ahead.findWay(p, spot);
        if (length == NONE) {
            return NOT_NOW;
        }
        int listed = Math.min(2 * length, trays[tray].size);
        for (int i = 0; i < listed; i++) {
            trays[tray].put(i, i % 2 == 0 ? p * 10 + ahead.actAt(i / 2) : NONE);
        }
        return listed;
    }

    public int image(int i) {
        if (i < 0 || i >= IMAGES) {
            return NO_SUCH;
        }
        imagesMade |= 1 << i;
        imagedRivers[i].copyFrom(river);
        imagedStates[i].copyFrom(state);
        return 0;
    }

    public int restore(int i) {
        if (i < 0 || i >= IMAGES) {
            return NO_SUCH;
        }
        if (!hasBit(imagesMade, i)) {
            return NOT_NOW;
        }
        river.copyFrom(imagedRivers[i]);
        state.copyFrom(imagedStates[i]);
        past.forget();
        plans.forget();
        return 0;
    }

    public int count(int what) {
        switch (what) {
            case 0:
                return river.gaps;
            case 1:
                return river.hours;
            case 2:
                return river.people;
            case 3:
                return river.withErrands();
            case 4:
                return state.done;
            case 5:
                return state.onSpan(river);
            case 6:
                return state.hour;
            case 7:
                return state.fog;
            case 8:
                return river.foggy;
            case 9:
                return past.size;
            case 10:
                return fed;
            case 11:
                return river.lines;
            default:
                return NONE;
        }
    }

    private static boolean isTray(int tray) {
        return tray >= 0 && tray < TRAYS;
    }

    private void putBytes(int four) {
        for (int shift = 24; shift >= 0 && fed < MOST_BYTES; shift -= 8) {
            tape[fed] = (byte) (four >> shift);
            fed++;
        }
    }

    private void willChange() {
        past.keep(state);
        plans.forget();
    }

    /** A call of several deeds is kept for undoing only if it did some. */
    private void becomeTrial(int could) {
        if (could > 0) {
            willChange();
            state.copyFrom(trial);
        }
    }

    private static boolean hasBit(int bits, int i) {
        return i >= 0 && i < 32 && (bits >> i & 1) != 0;
    }

    /** THE RIVER as its text tells it; its laws stand as answers to all they can be asked. */
    private static final class River {
        int gaps = 2;
        int hours = 1;
        int people = 0;
        int foggy = 0;
        int first = 0;
        int lines = 0;
        final int[] plan = new int[MOST_HOURS];
        final int[] start = new int[MOST_PEOPLE];
        final int[] load = new int[MOST_PEOPLE];
        final int[] goal = new int[MOST_PEOPLE];
        final int[] by = new int[MOST_PEOPLE];
        // By rows of a person, an hour of the week, fog or none: spots to walk from, gaps that serve.
        final int[] up = new int[MOST_PEOPLE * MOST_HOURS * 2];
        final int[] down = new int[MOST_PEOPLE * MOST_HOURS * 2];
        final int[] serve = new int[MOST_PEOPLE * MOST_HOURS * 2];

        void clear() {
            gaps = 2;
            hours = 1;
            people = 0;
            foggy = 0;
            first = 0;
            lines = 0;
            Arrays.fill(plan, 0);
            Arrays.fill(load, 0);
            Arrays.fill(goal, NONE);
            Arrays.fill(by, NONE);
        }

        void copyFrom(River other) {
            gaps = other.gaps;
            hours = other.hours;
            people = other.people;
            foggy = other.foggy;
            first = other.first;
            lines = other.lines;
            System.arraycopy(other.plan, 0, plan, 0, MOST_HOURS);
            System.arraycopy(other.start, 0, start, 0, MOST_PEOPLE);
            System.arraycopy(other.load, 0, load, 0, MOST_PEOPLE);
            System.arraycopy(other.goal, 0, goal, 0, MOST_PEOPLE);
            System.arraycopy(other.by, 0, by, 0, MOST_PEOPLE);
            System.arraycopy(other.up, 0, up, 0, up.length);
            System.arraycopy(other.down, 0, down, 0, down.length);
            System.arraycopy(other.serve, 0, serve, 0, serve.length);
        }

        boolean hasPerson(int p) {
            return p >= 0 && p < people;
        }

        boolean hasSpot(int spot) {
            return spot == ON_SPAN || spot >= 0 && spot < 2 * gaps;
        }

        boolean hasGap(int gap) {
            return gap >= 0 && gap < gaps;
        }

        boolean hasHour(int hour) {
            return hour >= 0 && hour < hours;
        }

        int hourOfWeek(int hour) {
            return hours < 1 || hour < 0 ? 0 : hour % hours;
        }

        int allSpots() {
            return (1 << 2 * gaps) - 1 | 1 << ON_SPAN;
        }

        int withErrands() {
            int bits = 0;
            for (int p = 0; p < people; p++) {
                if (goal[p] != NONE) {
                    bits |= 1 << p;
                }
            }
            return bits;
        }

        static int row(int p, int hourOfWeek, boolean fogs) {
            return (p * MOST_HOURS + hourOfWeek) * 2 + (fogs ? 1 : 0);
        }

        /** The rows of a law tell where it holds; who stands at an end has nowhere to walk to. */
        void fillRows(Law walks, Law serves) {
            int lowerGaps = (1 << 2 * (gaps - 1)) - 1;
            for (int p = 0; p < people; p++) {
                for (int h = 0; h < hours; h++) {
                    for (int f = 0; f < 2; f++) {
                        int row = row(p, h, f == 1);
                        int walk = walkable(walks, p, h, f);
                        up[row] = walk & lowerGaps;
                        down[row] = walk & ~3;
                        serve[row] = serving(serves, p, h, f);
                    }
                }
            }
        }

        private int walkable(Law walks, int p, int h, int fogs) {
            int bits = 0;
            for (int spot = 0; spot < 2 * gaps; spot++) {
                walks.ask(spot / 2, h, p, load[p], fogs, spot % 2);
                if (!walks.told || walks.holds()) {
                    bits |= 1 << spot;
                }
            }
            return bits;
        }

        private int serving(Law serves, int p, int h, int fogs) {
            int bits = 0;
            for (int gap = 0; gap < gaps; gap++) {
                serves.ask(gap, h, p, load[p], fogs, 0);
                if (serves.told ? serves.holds() : fogs == 0) {
                    bits |= 1 << gap;
                }
            }
            return bits;
        }

        /** Why somebody of that row can't do an act, the span lying at a gap, or NONE. */
        int hindrance(int row, int spot, int act, int lies) {
            switch (act) {
                case STAY:
                    return 0;
                case UP:
                    if (spot == ON_SPAN || spot / 2 + 1 >= gaps) {
                        return 2;
                    }
                    return hasBit(up[row], spot) ? 0 : 3;
                case DOWN:
                    if (spot == ON_SPAN || spot < 2) {
                        return 2;
                    }
                    return hasBit(down[row], spot) ? 0 : 3;
                case CROSS:
                case BOARD:
                    if (spot == ON_SPAN || lies != spot / 2) {
                        return 2;
                    }
                    break;
                case OFF_WEST:
                case OFF_EAST:
                    if (spot != ON_SPAN || lies == NONE) {
                        return 2;
                    }
                    break;
                default:
                    return 1;
            }
            return hasBit(serve[row], lies) ? 0 : 3;
        }

        static int moved(int spot, int act, int lies) {
            switch (act) {
                case UP:
                    return spot + 2;
                case DOWN:
                    return spot - 2;
                case CROSS:
                    return spot ^ 1;
                case BOARD:
                    return ON_SPAN;
                case OFF_WEST:
                    return 2 * lies;
                case OFF_EAST:
                    return 2 * lies + 1;
                default:
                    return spot;
            }
        }

        /** Where somebody of that row can be an hour later who may be at any of these spots. */
        int spread(int row, int spots, int lies) {
            return spots | (spots & up[row]) << 2 | (spots & down[row]) >> 2 | joined(row, spots, lies);
        }

        /** From where somebody of that row can be at one of these spots an hour later. */
        int gather(int row, int spots, int lies) {
            return spots | spots >> 2 & up[row] | spots << 2 & down[row] | joined(row, spots, lies);
        }

        /** A serving span leads from each of its two banks and itself to all three of these. */
        private int joined(int row, int spots, int lies) {
            if (lies == NONE || (serve[row] >> lies & 1) == 0) {
                return 0;
            }
            int three = 1 << ON_SPAN | 3 << 2 * lies;
            return (spots & three) != 0 ? three : 0;
        }
    }

    /** What a call could bring back by undoing. */
    private static final class State {
        int hour = 0;
        int fog = 0;
        int done = 0;
        final int[] week = new int[MOST_HOURS];
        final int[] spot = new int[MOST_PEOPLE];
        final int[] told = new int[MOST_PEOPLE];

        void copyFrom(State other) {
            hour = other.hour;
            fog = other.fog;
            done = other.done;
            System.arraycopy(other.week, 0, week, 0, MOST_HOURS);
            System.arraycopy(other.spot, 0, spot, 0, MOST_PEOPLE);
            System.arraycopy(other.told, 0, told, 0, MOST_PEOPLE);
        }

        void begin(River river) {
            hour = river.first;
            fog = 0;
            done = 0;
            System.arraycopy(river.plan, 0, week, 0, MOST_HOURS);
            System.arraycopy(river.start, 0, spot, 0, MOST_PEOPLE);
            Arrays.fill(told, STAY);
            markDone(river);
        }

        private void markDone(River river) {
            for (int p = 0; p < river.people; p++) {
                if (river.goal[p] == spot[p] && hour <= river.by[p]) {
                    done |= 1 << p;
                }
            }
        }

        int lies(River river) {
            return week[river.hourOfWeek(hour)];
        }

        int onSpan(River river) {
            int bits = 0;
            for (int p = 0; p < river.people; p++) {
                if (spot[p] == ON_SPAN) {
                    bits |= 1 << p;
                }
            }
            return bits;
        }

        int hindrance(River river, int p, int act) {
            if (!river.hasPerson(p)) {
                return 1;
            }
            int row = River.row(p, river.hourOfWeek(hour), fog > 0);
            return river.hindrance(row, spot[p], act, lies(river));
        }

        void passHour(River river) {
            int lies = lies(river);
            for (int p = 0; p < river.people; p++) {
                if (hindrance(river, p, told[p]) == 0) {
                    spot[p] = River.moved(spot[p], told[p], lies);
                }
                told[p] = STAY;
            }
            hour++;
            fog = Math.max(0, fog - 1);
            markDone(river);
        }

        /** Does a deed if it can be; answers why it can't, or 0. */
        int doDeed(River river, long deed) {
            if (deed == NONE) {
                passHour(river);
                return 0;
            }
            if (deed >= 0 && deed <= 49) {
                return tellAct(river, (int) deed / 10, (int) deed % 10);
            }
            if (deed >= 100 && deed <= 159) {
                return tellWeek(river, ((int) deed - 100) / 10, (int) deed % 10);
            }
            if (deed >= 200 && deed <= 209) {
                fog = (int) deed - 200;
                return 0;
            }
            return 1;
        }

        private int tellAct(River river, int p, int act) {
            int hindrance = hindrance(river, p, act);
            if (hindrance == 0) {
                told[p] = act;
            }
            return hindrance;
        }

        private int tellWeek(River river, int h, int gap) {
            if (!river.hasHour(h) || !(gap == 9 || river.hasGap(gap))) {
                return 1;
            }
            week[h] = gap == 9 ? NONE : gap;
            return 0;
        }

        /** Does the deeds of a tray till one can't be: how many. */
        int doAll(River river, Tray tray) {
            for (int i = 0; i < tray.size; i++) {
                if (doDeed(river, tray.at(i)) != 0) {
                    return i;
                }
            }
            return tray.size;
        }

        /** Does so many deeds by draws: how many of them could be. */
        int doYear(River river, int seed, int times) {
            int x = seed;
            int could = 0;
            for (int i = 0; i < times; i++) {
                x = drawn(x);
                int kind = (x >>> 16) % 4;
                int deed = NONE;
                if (kind == 3) {
                    x = drawn(x);
                    deed = 200 + (x >>> 16) % 3;
                } else if (kind != 0) {
                    if (river.people < 1) {
                        continue;
                    }
                    x = drawn(x);
                    int p = (x >>> 16) % river.people;
                    x = drawn(x);
                    deed = p * 10 + (x >>> 16) % ACTS;
                }
                if (doDeed(river, deed) == 0) {
                    could++;
                }
            }
            return could;
        }

        private static int drawn(int x) {
            return 1103515245 * x + 12345;
        }
    }

    /** States from ahead of the latest calls that did some deeds. */
    private static final class Past {
        private final State[] kept = new State[MOST_UNDOING];
        private int eldest = 0;
        int size = 0;

        Past() {
            for (int i = 0; i < MOST_UNDOING; i++) {
                kept[i] = new State();
            }
        }

        void forget() {
            size = 0;
        }

        void keep(State state) {
            kept[(eldest + size) % MOST_UNDOING].copyFrom(state);
            if (size < MOST_UNDOING) {
                size++;
            } else {
                eldest = (eldest + 1) % MOST_UNDOING;
            }
        }

        /** The state ahead of the last n calls, which are forgotten; n is not above size. */
        State back(int n) {
            size = Math.max(0, size - n);
            return kept[(eldest + size) % MOST_UNDOING];
        }
    }

    private static final class Tray {
        boolean here = false;
        int size = 0;
        private int sort = 0;
        private final long[] row = new long[MOST_NUMBERS];

        void empty(int newSort, int newSize) {
            here = true;
            sort = newSort;
            size = newSize;
            Arrays.fill(row, 0);
        }

        long at(int i) {
            return i >= 0 && i < row.length ? row[i] : 0;
        }

        long put(int i, long v) {
            if (i >= 0 && i < row.length) {
                row[i] = cut(v);
            }
            return at(i);
        }

        private long cut(long v) {
            switch (sort) {
                case 0:
                    return (byte) v;
                case 1:
                    return (short) v;
                case 2:
                    return (int) v;
                default:
                    return v;
            }
        }
    }

    /** A law in the order of its working out: operands first, then what joins them. */
    private static final class Law {
        static final int GAP = 1000;
        static final int FIRST_SIGN = 2000;
        static final int PLUS = 2000;
        static final int MINUS = 2001;
        static final int TIMES = 2002;
        static final int EQUAL = 2003;
        static final int BELOW = 2004;
        static final int ABOVE = 2005;
        static final int AND = 2006;
        static final int OR = 2007;
        static final int NOT = 2008;
        private static final int BOUND = 1000000;

        final boolean knowsSide;
        boolean told = false;
        private int size = 0;
        private final int[] code = new int[MOST_BYTES];
        private final int[] asked = new int[6];
        // A level of nesting leaves at most five operands waiting, and there are seven levels.
        private final int[] stack = new int[64];

        Law(boolean knowsSide) {
            this.knowsSide = knowsSide;
        }

        void clear() {
            told = false;
            size = 0;
        }

        void put(int step) {
            if (size < code.length) {
                code[size] = step;
                size++;
            }
        }

        void ask(int gap, int h, int who, int load, int fogs, int side) {
            asked[0] = gap;
            asked[1] = h;
            asked[2] = who;
            asked[3] = load;
            asked[4] = fogs;
            asked[5] = side;
        }

        boolean holds() {
            int top = 0;
            for (int i = 0; i < size; i++) {
                int step = code[i];
                if (step == NOT && top >= 1) {
                    stack[top - 1] = 1 - stack[top - 1];
                } else if (step >= FIRST_SIGN && top >= 2) {
                    top--;
                    stack[top - 1] = join(step, stack[top - 1], stack[top]);
                } else if (step < FIRST_SIGN && top < stack.length) {
                    int asking = step - GAP;
                    stack[top] = asking >= 0 && asking < asked.length ? asked[asking] : step;
                    top++;
                }
            }
            return stack[0] != 0;
        }

        private static int join(int sign, int a, int b) {
            switch (sign) {
                case PLUS:
                    return kept(a + b);
                case MINUS:
                    return kept(a - b);
                case TIMES:
                    return kept((long) a * b);
                case EQUAL:
                    return a == b ? 1 : 0;
                case BELOW:
                    return a < b ? 1 : 0;
                case ABOVE:
                    return a > b ? 1 : 0;
                case AND:
                    return a & b;
                default:
                    return a | b;
            }
        }

        private static int kept(long v) {
            return (int) Math.max(-BOUND, Math.min(BOUND, v));
        }
    }

    /** A text cut into tokens; a byte where none begins is the last of them. */
    private static final class Tokens {
        static final int END = 0;
        static final int BAD = 1;
        static final int NUMBER = 2;
        static final int STRANGE = 3;
        // Words are numbered by their order here, signs by their bytes, which are below.
        static final int FIRST_WORD = 101;
        private static final String WORDS =
            " river week span at rest person west east load to by walks serves foggy hour or and not gap who fog side ";
        private static final String SIGNS = ";:+-*()[]=<>";

        int size = 0;
        final int[] kinds = new int[MOST_BYTES + 1];
        final int[] places = new int[MOST_BYTES + 1];
        final int[] values = new int[MOST_BYTES + 1];

        void cut(byte[] text, int length) {
            size = 0;
            int at = 0;
            for (int i = 0; i <= MOST_BYTES && at < length; i++) {
                int sign = text[at];
                if (sign == 10 || sign == 32) {
                    at++;
                } else if (isLetter(sign)) {
                    int end = endOf(text, at, length, false);
                    add(wordKind(text, at, end), at, 0);
                    at = end;
                } else if (isDigit(sign)) {
                    int end = endOf(text, at, length, true);
                    add(end - at > 3 ? BAD : NUMBER, at, valueOf(text, at, end));
                    at = end - at > 3 ? length : end;
                } else {
                    boolean known = sign > 0 && SIGNS.indexOf((char) sign) >= 0;
                    add(known ? sign : BAD, at, 0);
                    at = known ? at + 1 : length;
                }
            }
            add(END, length, 0);
        }

        private void add(int kind, int place, int value) {
            if (size < kinds.length) {
                kinds[size] = kind;
                places[size] = place;
                values[size] = value;
                size++;
            }
        }

        private static boolean isLetter(int sign) {
            return sign >= 'a' && sign <= 'z';
        }

        private static boolean isDigit(int sign) {
            return sign >= '0' && sign <= '9';
        }

        private static int endOf(byte[] text, int from, int length, boolean digits) {
            int end = from;
            while (end < length && end < text.length && (digits ? isDigit(text[end]) : isLetter(text[end]))) {
                end++;
            }
            return end;
        }

        private static int valueOf(byte[] text, int from, int end) {
            int value = 0;
            for (int i = from; i < end && i < from + 3; i++) {
                value = value * 10 + text[i] - '0';
            }
            return value;
        }

        private static int wordKind(byte[] text, int from, int end) {
            int kind = FIRST_WORD;
            for (int i = 0; i + 1 < WORDS.length(); i++) {
                if (WORDS.charAt(i) == ' ') {
                    if (isWordAt(i + 1, text, from, end)) {
                        return kind;
                    }
                    kind++;
                }
            }
            return STRANGE;
        }

        private static boolean isWordAt(int at, byte[] text, int from, int end) {
            int length = end - from;
            if (at + length >= WORDS.length() || WORDS.charAt(at + length) != ' ') {
                return false;
            }
            for (int i = 0; i < length; i++) {
                if (WORDS.charAt(at + i) != text[from + i]) {
                    return false;
                }
            }
            return true;
        }
    }

    /** Reads a text into a draft of a river, as far as its first fault. */
    private static final class Reader {
        private static final int RIVER = 101;
        private static final int WEEK = 102;
        private static final int SPAN = 103;
        private static final int AT = 104;
        private static final int REST = 105;
        private static final int PERSON = 106;
        private static final int WEST = 107;
        private static final int EAST = 108;
        private static final int LOAD = 109;
        private static final int TO = 110;
        private static final int BY = 111;
        private static final int WALKS = 112;
        private static final int SERVES = 113;
        private static final int FOGGY = 114;
        private static final int HOUR = 115;
        private static final int OR = 116;
        private static final int AND = 117;
        private static final int NOT = 118;
        private static final int GAP = 119;
        private static final int WHO = 120;
        private static final int FOG = 121;
        private static final int SIDE = 122;
        private static final int STOPPED = -1;
        private static final int DEEPEST = 6;

        final River draft = new River();
        int fault = 0;
        int place = NONE;
        private int next = 0;
        private final Tokens tokens = new Tokens();
        private final Law walks = new Law(true);
        private final Law serves = new Law(false);
        private Law law = walks;

        /** The kind of the text's first fault, or 0: then the draft is the river. */
        int read(byte[] text, int length) {
            fault = 0;
            place = NONE;
            next = 0;
            tokens.cut(text, length);
            draft.clear();
            walks.clear();
            serves.clear();
            readHead();
            for (int i = 0; i < MOST_BYTES && fault == 0 && kind() != Tokens.END; i++) {
                readLine();
                expect(';');
                draft.lines++;
            }
            if (fault == 0) {
                draft.fillRows(walks, serves);
            }
            return fault;
        }

        private void readHead() {
            expect(RIVER);
            draft.gaps = readNumber(2, MOST_GAPS);
            expect(WEEK);
            draft.hours = readNumber(1, MOST_HOURS);
            expect(';');
            draft.lines = 1;
        }

        private void readLine() {
            switch (kind()) {
                case SPAN:
                    next++;
                    readSpan();
                    break;
                case PERSON:
                    if (draft.people >= MOST_PEOPLE) {
                        blame(4);
                    } else {
                        next++;
                        readPerson();
                    }
                    break;
                case WALKS:
                    beginLaw(walks);
                    readTruth(0);
                    break;
                case SERVES:
                    beginLaw(serves);
                    readTruth(0);
                    break;
                case FOGGY:
                    next++;
                    draft.foggy = readNumber(0, ODDS);
                    break;
                case HOUR:
                    next++;
                    draft.first = readNumber(0, 999);
                    break;
                default:
                    blame(2);
            }
        }

        private void readSpan() {
            int h = readNumber(0, draft.hours - 1);
            if (take(REST)) {
                draft.plan[h] = NONE;
                return;
            }
            expect(AT);
            draft.plan[h] = readNumber(0, draft.gaps - 1);
        }

        private void readPerson() {
            int p = draft.people;
            draft.people = p + 1;
            expect(AT);
            draft.start[p] = readSpot();
            for (int i = 0; i < MOST_BYTES && (kind() == LOAD || kind() == TO); i++) {
                if (take(LOAD)) {
                    draft.load[p] = readNumber(0, 99);
                } else {
                    expect(TO);
                    draft.goal[p] = readSpot();
                    expect(BY);
                    draft.by[p] = readNumber(0, 999);
                }
            }
        }

        private int readSpot() {
            int gap = readNumber(0, draft.gaps - 1);
            if (take(WEST)) {
                return 2 * gap;
            }
            expect(EAST);
            return 2 * gap + 1;
        }

        private void beginLaw(Law which) {
            law = which;
            law.clear();
            law.told = true;
            next++;
            expect(':');
        }

        private void readTruth(int depth) {
            readBoth(depth);
            for (int i = 0; i < MOST_BYTES && take(OR); i++) {
                readBoth(depth);
                law.put(Law.OR);
            }
        }

        private void readBoth(int depth) {
            readUnit(depth);
            for (int i = 0; i < MOST_BYTES && take(AND); i++) {
                readUnit(depth);
                law.put(Law.AND);
            }
        }

        private void readUnit(int depth) {
            int kind = kind();
            if ((kind == NOT || kind == '[') && depth >= DEEPEST) {
                blame(4);
            } else if (take(NOT)) {
                readUnit(depth + 1);
                law.put(Law.NOT);
            } else if (take('[')) {
                readTruth(depth + 1);
                expect(']');
            } else {
                readSum(depth);
                int step = comparing();
                next++;
                readSum(depth);
                law.put(step);
            }
        }

        private int comparing() {
            switch (kind()) {
                case '=':
                    return Law.EQUAL;
                case '<':
                    return Law.BELOW;
                case '>':
                    return Law.ABOVE;
                default:
                    blame(2);
                    return Law.EQUAL;
            }
        }

        private void readSum(int depth) {
            readTerm(depth);
            for (int i = 0; i < MOST_BYTES && (kind() == '+' || kind() == '-'); i++) {
                int step = kind() == '+' ? Law.PLUS : Law.MINUS;
                next++;
                readTerm(depth);
                law.put(step);
            }
        }

        private void readTerm(int depth) {
            readAtom(depth);
            for (int i = 0; i < MOST_BYTES && take('*'); i++) {
                readAtom(depth);
                law.put(Law.TIMES);
            }
        }

        private void readAtom(int depth) {
            int kind = kind();
            int asked = askedBy(kind);
            if (kind == Tokens.NUMBER) {
                law.put(readNumber(0, 999));
            } else if (asked != NONE) {
                next++;
                law.put(Law.GAP + asked);
            } else if (kind != '(') {
                blame(2);
            } else if (depth >= DEEPEST) {
                blame(4);
            } else {
                next++;
                readSum(depth + 1);
                expect(')');
            }
        }

        private int askedBy(int kind) {
            switch (kind) {
                case GAP:
                    return 0;
                case HOUR:
                    return 1;
                case WHO:
                    return 2;
                case LOAD:
                    return 3;
                case FOG:
                    return 4;
                case SIDE:
                    return law.knowsSide ? 5 : NONE;
                default:
                    return NONE;
            }
        }

        /** Behind a fault no token stands for anything, so that all reading ends. */
        private int kind() {
            return fault != 0 || next >= tokens.size ? STOPPED : tokens.kinds[next];
        }

        private boolean take(int kind) {
            if (kind() != kind) {
                return false;
            }
            next++;
            return true;
        }

        private void expect(int kind) {
            if (!take(kind)) {
                blame(2);
            }
        }

        private int readNumber(int low, int high) {
            if (kind() != Tokens.NUMBER) {
                blame(2);
                return low;
            }
            int value = tokens.values[next];
            if (value < low || value > high) {
                blame(3);
                return low;
            }
            next++;
            return value;
        }

        private void blame(int why) {
            if (fault == 0 && next < tokens.size) {
                fault = tokens.kinds[next] == Tokens.BAD ? 1 : why;
                place = tokens.places[next];
            }
        }
    }

    /** Where people can be in the hours to come, acting as they like. */
    private static final class Ahead {
        private final River river;
        private final State state;
        private final int[] leading = new int[FARTHEST + 1];
        private final int[] acts = new int[FARTHEST];
        private long[] counts = new long[SPOTS];
        private long[] later = new long[SPOTS];

        Ahead(River river, State state) {
            this.river = river;
            this.state = state;
        }

        int rowIn(int p, int t) {
            return River.row(p, river.hourOfWeek(state.hour + t), t < state.fog);
        }

        int liesIn(int t) {
            return state.week[river.hourOfWeek(state.hour + t)];
        }

        int hoursTo(int p, int spot) {
            return hoursFrom(p, 1 << state.spot[p], spot, state.week, 0, FARTHEST);
        }

        /** The fewest hours to a spot from these ones, which are where it may be in from hours. */
        int hoursFrom(int p, int spots, int spot, int[] week, int from, int limit) {
            int goal = 1 << spot;
            int h = river.hourOfWeek(state.hour + from);
            int still = 0;
            for (int t = 0; t <= limit; t++) {
                if ((spots & goal) != 0) {
                    return t;
                }
                boolean fogs = from + t < state.fog;
                int wider = river.spread(River.row(p, h, fogs), spots, week[h]);
                // A clear week that brings no new spot is like all those to come.
                still = wider == spots && !fogs ? still + 1 : 0;
                if (still >= river.hours) {
                    return NONE;
                }
                spots = wider;
                h = h + 1 >= river.hours ? 0 : h + 1;
            }
            return NONE;
        }

        int spotsIn(int p, int n) {
            int spots = 1 << state.spot[p];
            for (int t = 0; t < n; t++) {
                spots = river.spread(rowIn(p, t), spots, liesIn(t));
            }
            return spots;
        }

        int hoursToMeet(int p, int q) {
            int ps = 1 << state.spot[p];
            int qs = 1 << state.spot[q];
            for (int t = 0; t <= FARTHEST; t++) {
                if ((ps & qs) != 0) {
                    return t;
                }
                ps = river.spread(rowIn(p, t), ps, liesIn(t));
                qs = river.spread(rowIn(q, t), qs, liesIn(t));
            }
            return NONE;
        }

        /** Finds the first by acts of the shortest ways: how many acts it has, or NONE. */
        int findWay(int p, int spot) {
            int length = hoursTo(p, spot);
            if (length == NONE) {
                return NONE;
            }
            leading[length] = 1 << spot;
            for (int t = length - 1; t >= 0; t--) {
                leading[t] = river.gather(rowIn(p, t), leading[t + 1], liesIn(t));
            }
            int at = state.spot[p];
            for (int t = 0; t < length; t++) {
                acts[t] = firstActInto(rowIn(p, t), at, liesIn(t), leading[t + 1]);
                at = River.moved(at, acts[t], liesIn(t));
            }
            return length;
        }

        int actAt(int i) {
            return i >= 0 && i < acts.length ? acts[i] : NONE;
        }

        private int firstActInto(int row, int spot, int lies, int spots) {
            for (int act = 0; act < ACTS; act++) {
                if (river.hindrance(row, spot, act, lies) == 0 && hasBit(spots, River.moved(spot, act, lies))) {
                    return act;
                }
            }
            return STAY;
        }

        long countWays(int p, int spot, int n) {
            Arrays.fill(counts, 0);
            counts[state.spot[p]] = 1;
            for (int t = 0; t < n; t++) {
                Arrays.fill(later, 0);
                for (int from = 0; from < SPOTS; from++) {
                    if (counts[from] != 0) {
                        spreadCount(rowIn(p, t), from, liesIn(t));
                    }
                }
                long[] old = counts;
                counts = later;
                later = old;
            }
            return counts[spot];
        }

        private void spreadCount(int row, int from, int lies) {
            for (int act = 0; act < ACTS; act++) {
                if (river.hindrance(row, from, act, lies) == 0) {
                    later[River.moved(from, act, lies)] += counts[from];
                }
            }
        }
    }

    /** Errands by the week as it is, and by weeks told otherwise. */
    private static final class Weeks {
        private final River river;
        private final State state;
        private final Ahead ahead;
        private final int[] trial = new int[MOST_HOURS];
        final int[] best = new int[MOST_HOURS];
        int bestCount = 0;
        int bestMoves = 0;
        private int good = 0;
        private boolean bestKnown = false;
        private boolean goodKnown = false;
        // People whose errands are in time by some weeks and not by others.
        private final int[] open = new int[MOST_PEOPLE];
        private int opens = 0;
        private int sure = 0;
        private int hopeless = 0;
        // Where the open ones can be, by hours from now on.
        private final int[] spots = new int[(MOST_HOURS + 1) * MOST_PEOPLE];

        Weeks(River river, State state, Ahead ahead) {
            this.river = river;
            this.state = state;
            this.ahead = ahead;
        }

        void forget() {
            bestKnown = false;
            goodKnown = false;
        }

        private boolean hasErrand(int p) {
            return river.goal[p] != NONE;
        }

        private boolean isDone(int p) {
            return hasBit(state.done, p);
        }

        private int hoursLeft(int p) {
            return Math.min(FARTHEST, river.by[p] - state.hour);
        }

        /** Whether an errand that isn't done yet can be done in time by such a week. */
        private boolean comes(int p, int[] week) {
            return ahead.hoursFrom(p, 1 << state.spot[p], river.goal[p], week, 0, hoursLeft(p)) != NONE;
        }

        int doneInTime(int[] week) {
            int bits = 0;
            for (int p = 0; p < river.people; p++) {
                if (hasErrand(p) && (isDone(p) || comes(p, week))) {
                    bits |= 1 << p;
                }
            }
            return bits;
        }

        int hoursToSpare(int p) {
            if (isDone(p)) {
                return FARTHEST;
            }
            int left = river.by[p] - state.hour;
            for (int s = Math.min(FARTHEST, left); s >= 0; s--) {
                int limit = Math.min(FARTHEST, left - s);
                if (ahead.hoursFrom(p, 1 << state.spot[p], river.goal[p], state.week, s, limit) != NONE) {
                    return s;
                }
            }
            return NONE;
        }

        int hoursNeeded(int p) {
            if (isDone(p)) {
                return 0;
            }
            if (!comes(p, state.week)) {
                return NONE;
            }
            int bits = 0;
            takeWeek();
            for (int h = 0; h < river.hours; h++) {
                trial[h] = NONE;
                if (!comes(p, trial)) {
                    bits |= 1 << h;
                }
                trial[h] = state.week[h];
            }
            return bits;
        }

        private void takeWeek() {
            System.arraycopy(state.week, 0, trial, 0, MOST_HOURS);
        }

        int movesOf(int[] week) {
            int moves = 0;
            int last = week[river.hours - 1];
            for (int h = 0; h < river.hours; h++) {
                if (week[h] != last) {
                    moves++;
                }
                last = week[h];
            }
            return moves;
        }

        /** Where the span lies by choice c of a gap each, then resting. */
        private int choice(int c) {
            return c < river.gaps ? c : NONE;
        }

        int bestChange() {
            int most = Integer.bitCount(doneInTime(state.week));
            int change = NONE;
            takeWeek();
            for (int h = 0; h < river.hours; h++) {
                for (int c = 0; c <= river.gaps; c++) {
                    trial[h] = choice(c);
                    int count = Integer.bitCount(doneInTime(trial));
                    if (count > most) {
                        most = count;
                        change = 10 * h + (c < river.gaps ? c : 9);
                    }
                }
                trial[h] = state.week[h];
            }
            return change;
        }

        int bestShift() {
            int most = NONE;
            int shift = 0;
            for (int s = 0; s < river.hours; s++) {
                for (int h = 0; h < river.hours; h++) {
                    trial[h] = state.week[river.hourOfWeek(h - s + river.hours)];
                }
                int count = Integer.bitCount(doneInTime(trial));
                if (count > most) {
                    most = count;
                    shift = s;
                }
            }
            return shift;
        }

        /** Weeks without a move are tried first: often none can be better than one of these. */
        void findBest() {
            if (bestKnown) {
                return;
            }
            sortPeople();
            bestCount = NONE;
            for (int gap = 0; gap < river.gaps; gap++) {
                Arrays.fill(trial, gap);
                weigh(0);
            }
            if (bestCount < sure + opens) {
                tryBest(0);
            }
            bestKnown = true;
        }

        int countGood() {
            if (!goodKnown) {
                sortPeople();
                good = 0;
                if (hopeless == 0) {
                    tryGood(0);
                }
                goodKnown = true;
            }
            return good;
        }

        /** A span never keeps anybody from walking, so only errands between these bounds hang on it. */
        private void sortPeople() {
            opens = 0;
            sure = 0;
            hopeless = 0;
            Arrays.fill(trial, NONE);
            for (int p = 0; p < river.people; p++) {
                if (!hasErrand(p)) {
                    continue;
                }
                if (isDone(p) || comes(p, trial)) {
                    sure++;
                } else if (comesByAll(p)) {
                    open[opens] = p;
                    spots[opens] = 1 << state.spot[p];
                    opens++;
                } else {
                    hopeless++;
                }
            }
        }

        private boolean comesByAll(int p) {
            int at = 1 << state.spot[p];
            int left = hoursLeft(p);
            for (int t = 0; t < left; t++) {
                int row = ahead.rowIn(p, t);
                int wider = at;
                for (int gap = 0; gap < river.gaps; gap++) {
                    wider |= river.spread(row, at, gap);
                }
                at = wider;
            }
            return left >= 0 && hasBit(at, river.goal[p]);
        }

        /**
         * Tries all gaps for the week's hours, the one that comes first from now on first. The best
         * week never rests: to lie on where it lay saves moves, and hinders nobody.
         */
        private void tryBest(int depth) {
            if (sure + opens - lost(depth) < bestCount) {
                return;
            }
            if (depth >= river.hours) {
                weigh(depth);
                return;
            }
            int h = river.hourOfWeek(state.hour + depth);
            for (int gap = 0; gap < river.gaps; gap++) {
                trial[h] = gap;
                stepOpen(depth, h);
                tryBest(depth + 1);
            }
        }

        /**
         * Counts the weeks by which all open ones come, their first hours being those on trial. What
         * does for them while the others rest does whatever these others are.
         */
        private void tryGood(int depth) {
            if (lost(depth) > 0) {
                return;
            }
            if (allCome(depth)) {
                good += weeksOf(river.hours - depth);
                return;
            }
            if (depth >= river.hours) {
                return;
            }
            int h = river.hourOfWeek(state.hour + depth);
            for (int c = 0; c <= river.gaps; c++) {
                trial[h] = choice(c);
                stepOpen(depth, h);
                tryGood(depth + 1);
            }
        }

        private int weeksOf(int hours) {
            int all = 1;
            for (int h = 0; h < hours; h++) {
                all *= river.gaps + 1;
            }
            return all;
        }

        /** How many open ones can't come in time any more, so many hours having been gone through. */
        private int lost(int gone) {
            int lost = 0;
            for (int i = 0; i < opens; i++) {
                int p = open[i];
                if (gone >= hoursLeft(p) && !hasBit(spots[gone * MOST_PEOPLE + i], river.goal[p])) {
                    lost++;
                }
            }
            return lost;
        }

        private boolean allCome(int gone) {
            for (int i = 0; i < opens; i++) {
                if (!openComes(i, gone)) {
                    return false;
                }
            }
            return true;
        }

        /** Whether an open one comes by the week on trial, so many hours having been gone through. */
        private boolean openComes(int i, int gone) {
            int p = open[i];
            int at = spots[gone * MOST_PEOPLE + i];
            return hasBit(at, river.goal[p])
                || ahead.hoursFrom(p, at, river.goal[p], trial, gone, hoursLeft(p) - gone) != NONE;
        }

        private void stepOpen(int depth, int h) {
            boolean fogs = depth < state.fog;
            for (int i = 0; i < opens; i++) {
                int p = open[i];
                int at = spots[depth * MOST_PEOPLE + i];
                if (depth < hoursLeft(p) && !hasBit(at, river.goal[p])) {
                    at = river.spread(River.row(p, h, fogs), at, trial[h]);
                }
                spots[(depth + 1) * MOST_PEOPLE + i] = at;
            }
        }

        /** Weighs the week on trial; its first hours from now on, so many, have been gone through. */
        private void weigh(int gone) {
            int count = sure;
            for (int i = 0; i < opens; i++) {
                if (openComes(i, gone)) {
                    count++;
                }
            }
            if (count >= bestCount) {
                keepBetter(count, movesOf(trial));
            }
        }

        private void keepBetter(int count, int moves) {
            if (count > bestCount || moves < bestMoves || moves == bestMoves && trialIsFirst()) {
                bestCount = count;
                bestMoves = moves;
                System.arraycopy(trial, 0, best, 0, MOST_HOURS);
            }
        }

        private boolean trialIsFirst() {
            for (int h = 0; h < river.hours; h++) {
                if (trial[h] != best[h]) {
                    return trial[h] < best[h];
                }
            }
            return false;
        }
    }

    /** Where the span lay, by where somebody was seen. */
    private static final class Sightings {
        private final River river;
        private final State state;
        private final int[] seen = new int[MOST_SEEN];
        private final int[] trial = new int[MOST_HOURS];
        private int size = 0;

        Sightings(River river, State state) {
            this.river = river;
            this.state = state;
        }

        /** Takes what a tray tells, as the spots each number leaves; answers a refusal or 0. */
        int take(Tray tray) {
            if (!tray.here) {
                return TRAY_MISSING;
            }
            if (tray.size < 1 || tray.size > MOST_SEEN) {
                return TOO_MANY;
            }
            for (int i = 0; i < tray.size; i++) {
                long v = tray.at(i);
                if (v < NONE || v > ON_SPAN || v != NONE && !river.hasSpot((int) v)) {
                    return BAD_NUMBER;
                }
                seen[i] = v == NONE ? river.allSpots() : 1 << (int) v;
            }
            size = tray.size;
            return 0;
        }

        /** The first place where nobody can have come from those ahead, or NONE. */
        int firstBreak(int p, int[] week) {
            int spots = river.allSpots();
            for (int i = 0; i < size; i++) {
                spots &= seen[i];
                if (spots == 0) {
                    return i;
                }
                int h = river.hourOfWeek(state.hour + i);
                spots = river.spread(River.row(p, h, i < state.fog), spots, week[h]);
            }
            return NONE;
        }

        int fitting(int p, int hour) {
            System.arraycopy(state.week, 0, trial, 0, MOST_HOURS);
            int bits = 0;
            for (int gap = 0; gap < river.gaps; gap++) {
                trial[hour] = gap;
                if (firstBreak(p, trial) == NONE) {
                    bits |= 1 << gap;
                }
            }
            trial[hour] = NONE;
            return firstBreak(p, trial) == NONE ? bits | 1 << RESTING_BIT : bits;
        }

        int surestHour(int p) {
            int surest = NONE;
            int fewest = SPOTS;
            for (int h = 0; h < river.hours; h++) {
                int fit = Integer.bitCount(fitting(p, h));
                if (fit > 0 && fit < fewest) {
                    fewest = fit;
                    surest = h;
                }
            }
            return surest;
        }
    }

    /** How likely somebody comes to a spot when fogs are by chance. */
    private static final class Chances {
        private final River river;
        private final State state;
        private long[] now = new long[SPOTS];
        private long[] later = new long[SPOTS];

        Chances(River river, State state) {
            this.river = river;
            this.state = state;
        }

        static long power(int n) {
            long power = 1;
            for (int i = 0; i < n; i++) {
                power *= ODDS;
            }
            return power;
        }

        /** The greatest number that divides both, a being above 0; Euclid is through far below 100 steps. */
        static long sharedDivisor(long a, long b) {
            for (int i = 0; i < 100 && b != 0; i++) {
                long rest = a % b;
                a = b;
                b = rest;
            }
            return a;
        }

        /** The chance to be at a spot once within n hours, times 10 to the n. */
        long outOfPower(int p, int spot, int n) {
            Arrays.fill(now, 0);
            now[spot] = 1;
            for (int t = n - 1; t >= 0; t--) {
                long[] old = later;
                later = now;
                now = old;
                int h = river.hourOfWeek(state.hour + t);
                for (int from = 0; from < SPOTS; from++) {
                    now[from] = river.hasSpot(from) ? weighed(p, h, from) : 0;
                }
                now[spot] = power(n - t);
            }
            return now[state.spot[p]];
        }

        private long weighed(int p, int h, int from) {
            long foggy = likeliest(River.row(p, h, true), from, state.week[h]);
            long clear = likeliest(River.row(p, h, false), from, state.week[h]);
            return foggy * river.foggy + clear * (ODDS - river.foggy);
        }

        private long likeliest(int row, int from, int lies) {
            long most = 0;
            for (int act = 0; act < ACTS; act++) {
                if (river.hindrance(row, from, act, lies) == 0) {
                    most = Math.max(most, later[River.moved(from, act, lies)]);
                }
            }
            return most;
        }
    }
}
