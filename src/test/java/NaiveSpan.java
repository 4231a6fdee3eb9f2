import java.math.BigInteger;
import java.util.ArrayDeque;
import java.util.ArrayList;
import java.util.Arrays;
import java.util.Deque;
import java.util.HashMap;
import java.util.HashSet;
import java.util.List;
import java.util.Map;
import java.util.Set;
import java.util.TreeSet;
import java.util.regex.Matcher;
import java.util.regex.Pattern;

/** The document told once more, as slowly and as word for word as can be, for MovedSpan to be held against. */
final class NaiveSpan {
    static final int NONE = -1;

    interface Sum {
        long of(Map<String, Integer> world);
    }

    static final class Fault extends RuntimeException {
        private static final long serialVersionUID = 1L;
        final int kind;
        final int place;

        Fault(int kind, int place) {
            this.kind = kind;
            this.place = place;
        }
    }

    static final class Person {
        int spot;
        int load = 0;
        int goal = NONE;
        int by = NONE;
    }

    static final class Told {
        int gaps = 2;
        int hours = 1;
        int foggy = 0;
        int first = 0;
        int lines = 0;
        int[] plan = {0};
        List<Person> people = new ArrayList<>();
        Sum walks = w -> 1;
        Sum serves = w -> 1 - w.get("fog");
    }

    static final class Now {
        int hour;
        int fog;
        int[] week;
        int[] spots;
        int[] told;
        Set<Integer> done = new TreeSet<>();

        Now copy() {
            Now c = new Now();
            c.hour = hour;
            c.fog = fog;
            c.week = week.clone();
            c.spots = spots.clone();
            c.told = told.clone();
            c.done = new TreeSet<>(done);
            return c;
        }
    }

    Told river = new Told();
    Now now = start(river);
    final Deque<Now> past = new ArrayDeque<>();
    final StringBuilder tape = new StringBuilder();
    int faultKind = 0;
    int faultPlace = NONE;
    final long[][] trays = new long[4][];
    final int[] sorts = new int[4];
    final Told[] imageRivers = new Told[2];
    final Now[] imageNows = new Now[2];

    static Now start(Told river) {
        Now n = new Now();
        n.hour = river.first;
        n.week = river.plan.clone();
        n.spots = river.people.stream().mapToInt(p -> p.spot).toArray();
        n.told = new int[river.people.size()];
        markDone(river, n);
        return n;
    }

    static void markDone(Told river, Now n) {
        for (int p = 0; p < river.people.size(); p++) {
            Person who = river.people.get(p);
            if (who.goal != NONE && who.goal == n.spots[p] && n.hour <= who.by) {
                n.done.add(p);
            }
        }
    }

    static int bits(Iterable<Integer> set) {
        int b = 0;
        for (int i : set) {
            b |= 1 << i;
        }
        return b;
    }

    // ---- the text

    static final class Parser {
        final String text;
        final Told river = new Told();
        int at = 0;
        String token;
        int place;
        static final Pattern TOKEN = Pattern.compile("[a-z]+|[0-9]+|[;:+*()\\[\\]=<>-]");

        Parser(String text) {
            this.text = text;
        }

        /** The token at hand, looked at and not taken; "" at the end. */
        String peek() {
            if (token == null) {
                while (at < text.length() && (text.charAt(at) == 10 || text.charAt(at) == 32)) {
                    at++;
                }
                place = at;
                if (at == text.length()) {
                    token = "";
                } else {
                    Matcher m = TOKEN.matcher(text).region(at, text.length());
                    if (!m.lookingAt() || m.group().matches("[0-9]{4,}")) {
                        throw new Fault(1, at);
                    }
                    token = m.group();
                    at = m.end();
                }
            }
            return token;
        }

        boolean is(String... wanted) {
            return Arrays.asList(wanted).contains(peek());
        }

        String take(String... wanted) {
            if (!is(wanted)) {
                throw new Fault(2, place);
            }
            String t = token;
            token = null;
            return t;
        }

        int n(int low, int high) {
            if (!peek().matches("[0-9]+")) {
                throw new Fault(2, place);
            }
            int v = Integer.parseInt(token);
            if (v < low || v > high) {
                throw new Fault(3, place);
            }
            token = null;
            return v;
        }

        Told read() {
            take("river");
            river.gaps = n(2, 4);
            take("week");
            river.hours = n(1, 6);
            river.plan = new int[river.hours];
            take(";");
            river.lines = 1;
            while (!is("")) {
                line();
                take(";");
                river.lines++;
            }
            return river;
        }

        void line() {
            if (is("person") && river.people.size() == 5) {
                throw new Fault(4, place);
            }
            switch (take("span", "person", "walks", "serves", "foggy", "hour")) {
                case "span" -> {
                    int h = n(0, river.hours - 1);
                    river.plan[h] = take("at", "rest").equals("at") ? n(0, river.gaps - 1) : NONE;
                }
                case "person" -> person();
                case "walks" -> {
                    take(":");
                    river.walks = truth(true, 0);
                }
                case "serves" -> {
                    take(":");
                    river.serves = truth(false, 0);
                }
                case "foggy" -> river.foggy = n(0, 10);
                default -> river.first = n(0, 999);
            }
        }

        int spot() {
            int gap = n(0, river.gaps - 1);
            return 2 * gap + (take("west", "east").equals("east") ? 1 : 0);
        }

        void person() {
            Person p = new Person();
            river.people.add(p);
            take("at");
            p.spot = spot();
            while (is("load", "to")) {
                if (take("load", "to").equals("load")) {
                    p.load = n(0, 99);
                } else {
                    p.goal = spot();
                    take("by");
                    p.by = n(0, 999);
                }
            }
        }

        Sum truth(boolean walking, int deep) {
            List<Sum> all = new ArrayList<>();
            do {
                all.add(both(walking, deep));
            } while (goesOn("or"));
            return w -> all.stream().anyMatch(s -> s.of(w) != 0) ? 1 : 0;
        }

        boolean goesOn(String sign) {
            boolean yes = is(sign);
            if (yes) {
                token = null;
            }
            return yes;
        }

        Sum both(boolean walking, int deep) {
            List<Sum> all = new ArrayList<>();
            do {
                all.add(unit(walking, deep));
            } while (goesOn("and"));
            return w -> all.stream().allMatch(s -> s.of(w) != 0) ? 1 : 0;
        }

        void deeper(int deep) {
            if (deep == 6) {
                throw new Fault(4, place);
            }
            token = null;
        }

        Sum unit(boolean walking, int deep) {
            if (is("not")) {
                deeper(deep);
                Sum inner = unit(walking, deep + 1);
                return w -> inner.of(w) == 0 ? 1 : 0;
            }
            if (is("[")) {
                deeper(deep);
                Sum inner = truth(walking, deep + 1);
                take("]");
                return inner;
            }
            Sum left = sum(walking, deep);
            String sign = take("=", "<", ">");
            Sum right = sum(walking, deep);
            return w -> {
                int order = Long.compare(left.of(w), right.of(w));
                return (sign.equals("=") ? order == 0 : sign.equals("<") ? order < 0 : order > 0) ? 1 : 0;
            };
        }

        static long keep(long v) {
            return v > 1_000_000 ? 1_000_000 : v < -1_000_000 ? -1_000_000 : v;
        }

        Sum sum(boolean walking, int deep) {
            Sum all = term(walking, deep);
            while (is("+", "-")) {
                Sum left = all;
                boolean plus = take("+", "-").equals("+");
                Sum right = term(walking, deep);
                all = w -> keep(plus ? left.of(w) + right.of(w) : left.of(w) - right.of(w));
            }
            return all;
        }

        Sum term(boolean walking, int deep) {
            Sum all = atom(walking, deep);
            while (goesOn("*")) {
                Sum left = all;
                Sum right = atom(walking, deep);
                all = w -> keep(left.of(w) * right.of(w));
            }
            return all;
        }

        Sum atom(boolean walking, int deep) {
            if (is("(")) {
                deeper(deep);
                Sum inner = sum(walking, deep + 1);
                take(")");
                return inner;
            }
            if (peek().matches("[0-9]+")) {
                long v = n(0, 999);
                return w -> v;
            }
            String name = walking ? take("gap", "hour", "who", "load", "fog", "side") : take("gap", "hour", "who", "load", "fog");
            return w -> w.get(name);
        }
    }

    int feed(int a, int b, int c, int d, int e) {
        if (tape.length() + 20 > 900) {
            return -5;
        }
        for (int v : new int[] {a, b, c, d, e}) {
            for (byte one : java.nio.ByteBuffer.allocate(4).putInt(v).array()) {
                tape.append((char) (one & 255));
            }
        }
        return tape.length();
    }

    int river(int n) {
        if (n < 0 || n > tape.length()) {
            return -3;
        }
        String text = tape.substring(0, n);
        tape.setLength(0);
        try {
            river = new Parser(text).read();
        } catch (Fault f) {
            faultKind = f.kind;
            faultPlace = f.place;
            return -30 - f.kind;
        }
        faultKind = 0;
        faultPlace = NONE;
        now = start(river);
        past.clear();
        return river.lines;
    }

    int fault(int what) {
        return what == 0 ? faultKind : what == 1 ? faultPlace : NONE;
    }

    // ---- the rules of acts

    boolean noPerson(int p) {
        return p < 0 || p >= river.people.size();
    }

    boolean noSpot(int s) {
        return s != 8 && (s < 0 || s >= 2 * river.gaps);
    }

    int why(int p, int act, int spot, int hour, boolean fogs, int[] week) {
        if (noPerson(p) || act < 0 || act > 6) {
            return 1;
        }
        if (act == 0) {
            return 0;
        }
        int h = hour % river.hours;
        int lies = week[h];
        boolean on = spot == 8;
        boolean possible = switch (act) {
            case 1 -> !on && spot / 2 < river.gaps - 1;
            case 2 -> !on && spot / 2 > 0;
            case 3, 4 -> !on && lies == spot / 2;
            default -> on && lies != NONE;
        };
        if (!possible) {
            return 2;
        }
        Map<String, Integer> world = new HashMap<>();
        world.put("gap", on ? lies : spot / 2);
        world.put("hour", h);
        world.put("who", p);
        world.put("load", river.people.get(p).load);
        world.put("fog", fogs ? 1 : 0);
        world.put("side", spot % 2);
        return (act <= 2 ? river.walks : river.serves).of(world) != 0 ? 0 : 3;
    }

    int whyNow(Now n, int p, int act) {
        return why(p, act, noPerson(p) ? 0 : n.spots[p], n.hour, n.fog > 0, n.week);
    }

    static int go(int spot, int act, int lies) {
        int[] to = {spot, spot + 2, spot - 2, spot % 2 == 0 ? spot + 1 : spot - 1, 8, lies * 2, lies * 2 + 1};
        return to[act];
    }

    int span(int n) {
        return n < 0 || n > 999 ? -3 : now.week[(now.hour + n) % river.hours];
    }

    int person(int p, int what) {
        if (noPerson(p) || what < 0 || what > 5) {
            return -2;
        }
        Person who = river.people.get(p);
        int[] all = {now.spots[p], who.load, who.goal, who.by, now.done.contains(p) ? 1 : 0, now.told[p]};
        return all[what];
    }

    int why(int p, int act) {
        return whyNow(now, p, act);
    }

    // ---- deeds

    void keepPast(Now before) {
        past.push(before);
        if (past.size() > 10) {
            past.removeLast();
        }
    }

    int act(int p, int act) {
        int why = why(p, act);
        if (why != 0) {
            return -10 - why;
        }
        keepPast(now.copy());
        now.told[p] = act;
        return go(now.spots[p], act, now.week[now.hour % river.hours]);
    }

    int tell(int hour, int gap) {
        if (hour < 0 || hour >= river.hours || gap < -1 || gap >= river.gaps) {
            return -2;
        }
        keepPast(now.copy());
        int was = now.week[hour];
        now.week[hour] = gap;
        return was;
    }

    int fog(int n) {
        if (n < 0 || n > 99) {
            return -3;
        }
        keepPast(now.copy());
        int was = now.fog;
        now.fog = n;
        return was;
    }

    void hour(Now n) {
        int[] to = n.spots.clone();
        for (int p = 0; p < to.length; p++) {
            if (whyNow(n, p, n.told[p]) == 0) {
                to[p] = go(n.spots[p], n.told[p], n.week[n.hour % river.hours]);
            }
        }
        n.spots = to;
        n.told = new int[to.length];
        n.hour++;
        if (n.fog > 0) {
            n.fog--;
        }
        markDone(river, n);
    }

    int hours(int n) {
        if (n < 1 || n > 48) {
            return -3;
        }
        keepPast(now.copy());
        int before = now.done.size();
        for (int i = 0; i < n; i++) {
            hour(now);
        }
        return now.done.size() - before;
    }

    int undo(int n) {
        if (n < 1 || n > 10 || n > past.size()) {
            return -3;
        }
        for (int i = 0; i < n; i++) {
            now = past.pop();
        }
        return past.size();
    }

    int deed(Now n, long v) {
        if (v == -1) {
            hour(n);
            return 0;
        }
        if (v >= 0 && v < 50) {
            int why = whyNow(n, (int) v / 10, (int) v % 10);
            if (why == 0) {
                n.told[(int) v / 10] = (int) v % 10;
            }
            return why;
        }
        if (v >= 100 && v < 160) {
            int h = (int) (v - 100) / 10;
            int gap = (int) v % 10;
            if (h >= river.hours || gap >= river.gaps && gap != 9) {
                return 1;
            }
            n.week[h] = gap == 9 ? NONE : gap;
            return 0;
        }
        if (v >= 200 && v < 210) {
            n.fog = (int) v - 200;
            return 0;
        }
        return 1;
    }

    boolean noTray(int t) {
        return t < 0 || t > 3;
    }

    int judge(int tray, int what) {
        if (noTray(tray) || what < 0 || what > 3) {
            return -2;
        }
        if (trays[tray] == null) {
            return -6;
        }
        Now n = now.copy();
        int place = NONE;
        int why = 0;
        for (int i = 0; i < trays[tray].length && why == 0; i++) {
            why = deed(n, trays[tray][i]);
            place = why == 0 ? NONE : i;
        }
        return new int[] {place, why, bits(n.done), n.hour}[what];
    }

    int perform(int tray) {
        if (noTray(tray)) {
            return -2;
        }
        if (trays[tray] == null) {
            return -6;
        }
        Now before = now.copy();
        int did = 0;
        for (long v : trays[tray]) {
            if (deed(now, v) != 0) {
                break;
            }
            did++;
        }
        if (did > 0) {
            keepPast(before);
        }
        return did;
    }

    int year(int seed, int times) {
        if (times < 1 || times > 40) {
            return -3;
        }
        Now before = now.copy();
        int[] x = {seed};
        java.util.function.IntSupplier draw = () -> {
            x[0] = 1103515245 * x[0] + 12345;
            return x[0] >>> 16;
        };
        int did = 0;
        for (int i = 0; i < times; i++) {
            int kind = draw.getAsInt() % 4;
            if (kind == 0) {
                hour(now);
                did++;
            } else if (kind == 3) {
                now.fog = draw.getAsInt() % 3;
                did++;
            } else if (!river.people.isEmpty()) {
                int p = draw.getAsInt() % river.people.size();
                int a = draw.getAsInt() % 7;
                if (whyNow(now, p, a) == 0) {
                    now.told[p] = a;
                    did++;
                }
            }
        }
        if (did > 0) {
            keepPast(before);
        }
        return did;
    }

    // ---- to come

    Set<Integer> after(int p, Set<Integer> from, int t, int[] week) {
        Set<Integer> to = new TreeSet<>();
        for (int s : from) {
            for (int a = 0; a < 7; a++) {
                if (why(p, a, s, now.hour + t, t < now.fog, week) == 0) {
                    to.add(go(s, a, week[(now.hour + t) % river.hours]));
                }
            }
        }
        return to;
    }

    int hoursTo(int p, int spot, int[] week, int stayed) {
        Set<Integer> at = Set.of(now.spots[p]);
        for (int t = 0; t <= 60; t++) {
            if (at.contains(spot)) {
                return t;
            }
            at = after(p, at, stayed + t, week);
        }
        return NONE;
    }

    int soonest(int p, int spot) {
        return noPerson(p) || noSpot(spot) ? -2 : hoursTo(p, spot, now.week, 0);
    }

    boolean leads(int p, int at, int t, int length, int spot, Map<Integer, Boolean> known) {
        if (t == length) {
            return at == spot;
        }
        Boolean k = known.get(t * 9 + at);
        if (k == null) {
            k = false;
            for (int s : after(p, Set.of(at), t, now.week)) {
                k = k || leads(p, s, t + 1, length, spot, known);
            }
            known.put(t * 9 + at, k);
        }
        return k;
    }

    List<Integer> wayOf(int p, int spot) {
        int length = hoursTo(p, spot, now.week, 0);
        if (length == NONE) {
            return null;
        }
        Map<Integer, Boolean> known = new HashMap<>();
        List<Integer> way = new ArrayList<>();
        int at = now.spots[p];
        for (int t = 0; t < length; t++) {
            for (int a = 0; a < 7; a++) {
                if (why(p, a, at, now.hour + t, t < now.fog, now.week) == 0) {
                    int to = go(at, a, now.week[(now.hour + t) % river.hours]);
                    if (leads(p, to, t + 1, length, spot, known)) {
                        way.add(a);
                        at = to;
                        break;
                    }
                }
            }
        }
        return way;
    }

    int way(int p, int spot, int i) {
        if (noPerson(p) || noSpot(spot)) {
            return -2;
        }
        if (i < 0) {
            return -3;
        }
        List<Integer> way = wayOf(p, spot);
        return way == null || i >= way.size() ? NONE : way.get(i);
    }

    long waysFrom(int p, int at, int t, int n, int spot, Map<Integer, Long> known) {
        if (t == n) {
            return at == spot ? 1 : 0;
        }
        Long k = known.get(t * 9 + at);
        if (k == null) {
            k = 0L;
            for (int a = 0; a < 7; a++) {
                if (why(p, a, at, now.hour + t, t < now.fog, now.week) == 0) {
                    k += waysFrom(p, go(at, a, now.week[(now.hour + t) % river.hours]), t + 1, n, spot, known);
                }
            }
            known.put(t * 9 + at, k);
        }
        return k;
    }

    long ways(int p, int spot, int n) {
        if (noPerson(p) || noSpot(spot)) {
            return -2;
        }
        return n < 0 || n > 12 ? -3 : waysFrom(p, now.spots[p], 0, n, spot, new HashMap<>());
    }

    Set<Integer> spotsIn(int p, int n) {
        Set<Integer> at = Set.of(now.spots[p]);
        for (int t = 0; t < n; t++) {
            at = after(p, at, t, now.week);
        }
        return at;
    }

    int reach(int p, int n) {
        if (noPerson(p)) {
            return -2;
        }
        return n < 0 || n > 60 ? -3 : bits(spotsIn(p, n));
    }

    int[] meeting(int p, int q) {
        if (noPerson(p) || noPerson(q) || p == q) {
            return new int[] {-2, -2};
        }
        Set<Integer> ps = Set.of(now.spots[p]);
        Set<Integer> qs = Set.of(now.spots[q]);
        for (int t = 0; t <= 60; t++) {
            Set<Integer> both = new TreeSet<>(ps);
            both.retainAll(qs);
            if (!both.isEmpty()) {
                return new int[] {t, both.iterator().next()};
            }
            ps = after(p, ps, t, now.week);
            qs = after(q, qs, t, now.week);
        }
        return new int[] {NONE, NONE};
    }

    int meet(int p, int q) {
        return meeting(p, q)[0];
    }

    int meetAt(int p, int q) {
        return meeting(p, q)[1];
    }

    // ---- errands

    boolean isInTime(int p, int[] week) {
        Person who = river.people.get(p);
        if (who.goal == NONE) {
            return false;
        }
        int hours = hoursTo(p, who.goal, week, 0);
        return now.done.contains(p) || hours != NONE && hours + now.hour <= who.by;
    }

    Set<Integer> inTimeBy(int[] week) {
        Set<Integer> all = new TreeSet<>();
        for (int p = 0; p < river.people.size(); p++) {
            if (isInTime(p, week)) {
                all.add(p);
            }
        }
        return all;
    }

    int inTime() {
        return bits(inTimeBy(now.week));
    }

    int spare(int p) {
        if (noPerson(p)) {
            return -2;
        }
        Person who = river.people.get(p);
        if (who.goal == NONE) {
            return -5;
        }
        if (now.done.contains(p)) {
            return 60;
        }
        for (int s = 60; s >= 0; s--) {
            int hours = hoursTo(p, who.goal, now.week, s);
            if (hours != NONE && now.hour + s + hours <= who.by) {
                return s;
            }
        }
        return NONE;
    }

    int needs(int p) {
        if (noPerson(p)) {
            return -2;
        }
        if (river.people.get(p).goal == NONE) {
            return -5;
        }
        if (!isInTime(p, now.week)) {
            return NONE;
        }
        Set<Integer> need = new HashSet<>();
        for (int h = 0; h < river.hours; h++) {
            int[] week = now.week.clone();
            week[h] = NONE;
            if (!isInTime(p, week)) {
                need.add(h);
            }
        }
        return bits(need);
    }

    // ---- weeks

    static int movesOf(int[] week) {
        int moves = 0;
        for (int h = 0; h < week.length; h++) {
            if (week[h] != week[(h + week.length - 1) % week.length]) {
                moves++;
            }
        }
        return moves;
    }

    int moves() {
        return movesOf(now.week);
    }

    /** All weeks, the first by hours first, resting behind the gaps. */
    List<int[]> allWeeks() {
        List<int[]> all = new ArrayList<>();
        all.add(new int[0]);
        for (int h = 0; h < river.hours; h++) {
            List<int[]> longer = new ArrayList<>();
            for (int[] w : all) {
                for (int c = 0; c <= river.gaps; c++) {
                    int[] more = Arrays.copyOf(w, h + 1);
                    more[h] = c == river.gaps ? NONE : c;
                    longer.add(more);
                }
            }
            all = longer;
        }
        return all;
    }

    int best(int what) {
        if (what != 0 && what != 1 && (what < 10 || what - 10 >= river.hours)) {
            return -2;
        }
        int[] best = null;
        int most = -1;
        int fewest = 99;
        for (int[] w : allWeeks()) {
            int count = inTimeBy(w).size();
            int moves = movesOf(w);
            if (count > most || count == most && moves < fewest) {
                best = w;
                most = count;
                fewest = moves;
            }
        }
        return what == 0 ? most : what == 1 ? fewest : best[what - 10];
    }

    int change() {
        int most = inTimeBy(now.week).size();
        int change = NONE;
        for (int h = 0; h < river.hours; h++) {
            for (int g = 0; g < 10; g++) {
                if (g >= river.gaps && g != 9) {
                    continue;
                }
                int[] week = now.week.clone();
                week[h] = g == 9 ? NONE : g;
                int count = inTimeBy(week).size();
                if (count > most) {
                    most = count;
                    change = 10 * h + g;
                }
            }
        }
        return change;
    }

    int weeks() {
        long errands = river.people.stream().filter(p -> p.goal != NONE).count();
        int good = 0;
        for (int[] w : allWeeks()) {
            if (inTimeBy(w).size() == errands) {
                good++;
            }
        }
        return good;
    }

    int shift() {
        int most = -1;
        int least = -1;
        for (int s = 0; s < river.hours; s++) {
            int[] week = new int[river.hours];
            for (int h = 0; h < river.hours; h++) {
                week[(h + s) % river.hours] = now.week[h];
            }
            int count = inTimeBy(week).size();
            if (count > most) {
                most = count;
                least = s;
            }
        }
        return least;
    }

    // ---- seen

    int refused(int tray, int p) {
        if (noTray(tray) || noPerson(p)) {
            return -2;
        }
        if (trays[tray] == null) {
            return -6;
        }
        if (trays[tray].length < 1 || trays[tray].length > 12) {
            return -4;
        }
        for (long v : trays[tray]) {
            if (v != -1 && (v < 0 || v > 8 || noSpot((int) v))) {
                return -3;
            }
        }
        return 0;
    }

    int firstOdd(int tray, int p, int[] week) {
        Set<Integer> at = null;
        for (int i = 0; i < trays[tray].length; i++) {
            if (at != null) {
                at = after(p, at, i - 1, week);
            }
            int v = (int) trays[tray][i];
            if (v != NONE) {
                if (at != null && !at.contains(v)) {
                    return i;
                }
                at = Set.of(v);
            }
        }
        return NONE;
    }

    Set<Integer> fitting(int tray, int p, int hour) {
        Set<Integer> fit = new TreeSet<>();
        for (int g = -1; g < river.gaps; g++) {
            int[] week = now.week.clone();
            week[hour] = g;
            if (firstOdd(tray, p, week) == NONE) {
                fit.add(g == -1 ? 4 : g);
            }
        }
        return fit;
    }

    int fits(int tray, int p, int hour) {
        if (hour < 0 || hour >= river.hours) {
            return -2;
        }
        int refused = refused(tray, p);
        return refused != 0 ? refused : bits(fitting(tray, p, hour));
    }

    int surest(int tray, int p) {
        int refused = refused(tray, p);
        if (refused != 0) {
            return refused;
        }
        int surest = NONE;
        int fewest = 99;
        for (int h = 0; h < river.hours; h++) {
            int fit = fitting(tray, p, h).size();
            if (fit > 0 && fit < fewest) {
                fewest = fit;
                surest = h;
            }
        }
        return surest;
    }

    int odd(int tray, int p) {
        int refused = refused(tray, p);
        return refused != 0 ? refused : firstOdd(tray, p, now.week);
    }

    // ---- chances: a pair of a number above and one below

    BigInteger[] chanceFrom(int p, int at, int t, int n, int spot, Map<Integer, BigInteger[]> known) {
        if (at == spot) {
            return new BigInteger[] {BigInteger.ONE, BigInteger.ONE};
        }
        if (t == n) {
            return new BigInteger[] {BigInteger.ZERO, BigInteger.ONE};
        }
        BigInteger[] k = known.get(t * 9 + at);
        if (k != null) {
            return k;
        }
        BigInteger[] sum = {BigInteger.ZERO, BigInteger.ONE};
        for (int f = 0; f < 2; f++) {
            BigInteger[] most = {BigInteger.ZERO, BigInteger.ONE};
            for (int a = 0; a < 7; a++) {
                if (why(p, a, at, now.hour + t, f == 1, now.week) == 0) {
                    BigInteger[] c = chanceFrom(p, go(at, a, now.week[(now.hour + t) % river.hours]), t + 1, n, spot, known);
                    if (c[0].multiply(most[1]).compareTo(most[0].multiply(c[1])) > 0) {
                        most = c;
                    }
                }
            }
            BigInteger weight = BigInteger.valueOf(f == 1 ? river.foggy : 10 - river.foggy);
            BigInteger[] part = {most[0].multiply(weight), most[1].multiply(BigInteger.TEN)};
            sum = lowest(sum[0].multiply(part[1]).add(part[0].multiply(sum[1])), sum[1].multiply(part[1]));
        }
        known.put(t * 9 + at, sum);
        return sum;
    }

    static BigInteger[] lowest(BigInteger above, BigInteger below) {
        BigInteger g = above.gcd(below);
        return new BigInteger[] {above.divide(g), below.divide(g)};
    }

    long chance(int p, int spot, int n, int what) {
        if (noPerson(p) || noSpot(spot) || what < 0 || what > 1) {
            return -2;
        }
        return n < 0 || n > 9 ? -3 : chanceFrom(p, now.spots[p], 0, n, spot, new HashMap<>())[what].longValueExact();
    }

    int likely(int p, int spot, int m) {
        if (noPerson(p) || noSpot(spot)) {
            return -2;
        }
        if (m < 0 || m > 100) {
            return -3;
        }
        for (int n = 0; n <= 9; n++) {
            BigInteger[] c = chanceFrom(p, now.spots[p], 0, n, spot, new HashMap<>());
            if (c[0].multiply(BigInteger.valueOf(100)).compareTo(c[1].multiply(BigInteger.valueOf(m))) >= 0) {
                return n;
            }
        }
        return NONE;
    }

    // ---- trays, images

    int numbers(int tray, int sort, int n) {
        if (noTray(tray) || sort < 0 || sort > 3) {
            return -2;
        }
        if (n < 0 || n > 40) {
            return -3;
        }
        trays[tray] = new long[n];
        sorts[tray] = sort;
        return 0;
    }

    long write(int tray, int i, long v) {
        if (noTray(tray)) {
            return -2;
        }
        if (trays[tray] == null) {
            return -6;
        }
        if (i < 0 || i >= trays[tray].length) {
            return -7;
        }
        int unused = 64 - (8 << sorts[tray]);
        trays[tray][i] = v << unused >> unused;
        return trays[tray][i];
    }

    int lists(int tray, int p, int spot) {
        if (noTray(tray) || noPerson(p) || noSpot(spot)) {
            return -2;
        }
        if (trays[tray] == null) {
            return -6;
        }
        List<Integer> way = wayOf(p, spot);
        if (way == null) {
            return -5;
        }
        List<Long> deeds = new ArrayList<>();
        for (int a : way) {
            deeds.add((long) p * 10 + a);
            deeds.add(-1L);
        }
        int listed = 0;
        while (listed < deeds.size() && listed < trays[tray].length) {
            trays[tray][listed] = deeds.get(listed);
            listed++;
        }
        return listed;
    }

    int image(int i) {
        if (i < 0 || i > 1) {
            return -2;
        }
        imageRivers[i] = river;
        imageNows[i] = now.copy();
        return 0;
    }

    int restore(int i) {
        if (i < 0 || i > 1) {
            return -2;
        }
        if (imageRivers[i] == null) {
            return -5;
        }
        river = imageRivers[i];
        now = imageNows[i].copy();
        past.clear();
        return 0;
    }

    int count(int what) {
        Set<Integer> errands = new TreeSet<>();
        Set<Integer> on = new TreeSet<>();
        for (int p = 0; p < river.people.size(); p++) {
            if (river.people.get(p).goal != NONE) {
                errands.add(p);
            }
            if (now.spots[p] == 8) {
                on.add(p);
            }
        }
        int[] all = {river.gaps, river.hours, river.people.size(), bits(errands), bits(now.done), bits(on),
            now.hour, now.fog, river.foggy, past.size(), tape.length(), river.lines};
        return what < 0 || what >= all.length ? NONE : all[what];
    }
}
