import java.lang.reflect.InvocationTargetException;
import java.lang.reflect.Method;
import java.nio.charset.StandardCharsets;
import java.util.ArrayList;
import java.util.Arrays;
import java.util.LinkedHashMap;
import java.util.List;
import java.util.Map;
import java.util.Random;
import java.util.TreeMap;

/** Random runs of calls, each answer held against NaiveSpan's. An argument sets the first seed, another how many runs. */
public final class RandomRunsTest {
    /** What a call's arguments are, a letter each. */
    private static final Map<String, String> CALLS = new LinkedHashMap<>();

    static {
        String all = "fault:w span:n person:pw why:pa act:pa tell:hg fog:f hours:k undo:u judge:tw perform:t year:xy"
            + " soonest:ps way:psi ways:psm reach:pr meet:pp meetAt:pp inTime: spare:p needs:p moves: best:b change:"
            + " weeks: shift: fits:tph surest:tp odd:tp chance:pscw likely:psl numbers:tzn write:tiv lists:tps image:j"
            + " restore:j count:q feed:xxxxx";
        for (String one : all.split(" ")) {
            String[] two = one.split(":", -1);
            CALLS.put(two[0], two[1]);
        }
    }

    private final Random random;
    private final MovedSpan span = new MovedSpan();
    private final NaiveSpan naive = new NaiveSpan();
    private final List<String> log = new ArrayList<>();
    private final boolean large;
    private int calls = 0;
    private static final Map<String, Map<Long, Integer>> ANSWERS = new TreeMap<>();

    private RandomRunsTest(long seed, boolean large) {
        random = new Random(seed);
        this.large = large;
    }

    public static void main(String[] args) throws Exception {
        long first = args.length > 0 ? Long.parseLong(args[0]) : 1;
        int runs = args.length > 1 ? Integer.parseInt(args[1]) : 250;
        int wrong = 0;
        for (long seed = first; seed < first + runs && wrong < 5; seed++) {
            RandomRunsTest run = new RandomRunsTest(seed, seed % 50 == 0);
            String fault = run.go();
            if (fault != null) {
                wrong++;
                System.out.println("seed " + seed + ": " + fault);
                System.out.println("  " + String.join("\n  ", run.log));
            }
        }
        if (args.length > 2) {
            ANSWERS.forEach((k, v) -> System.out.println(k + " " + v));
        }
        System.out.println(wrong == 0 ? "all random runs are as due" : wrong + " random runs are not as due");
        System.exit(wrong == 0 ? 0 : 1);
    }

    private String go() throws Exception {
        if (random.nextInt(10) > 0) {
            String fault = feedText(riverText());
            if (fault != null) {
                return fault;
            }
        }
        while (calls < 430) {
            String fault;
            int kind = random.nextInt(100);
            if (kind < 2) {
                fault = feedText(random.nextInt(3) == 0 ? mutated(riverText()) : riverText());
            } else if (kind < 6) {
                fault = fillDeeds();
            } else if (kind < 10) {
                fault = fillSeen();
            } else {
                fault = anyCall();
            }
            if (fault != null) {
                return fault;
            }
        }
        return null;
    }

    private String anyCall() throws Exception {
        List<String> names = new ArrayList<>(CALLS.keySet());
        String name = names.get(random.nextInt(names.size()));
        if (name.equals("feed") && random.nextInt(10) > 0) {
            return null;
        }
        if ((name.equals("best") || name.equals("weeks")) && large && random.nextInt(8) > 0) {
            return null;
        }
        if (name.equals("hours") && random.nextInt(3) > 0) {
            return null;
        }
        String kinds = CALLS.get(name);
        Object[] args = new Object[kinds.length()];
        for (int i = 0; i < args.length; i++) {
            long v = argument(kinds.charAt(i));
            args[i] = kinds.charAt(i) == 'v' ? (Object) v : (Object) (int) v;
        }
        return both(name, args);
    }

    private static final int[] EXTREMES = {Integer.MIN_VALUE, Integer.MIN_VALUE + 9, -100, -1, 900, 1 << 16, Integer.MAX_VALUE};

    private long argument(char kind) {
        boolean wild = random.nextInt(12) == 0;
        if (wild && random.nextInt(5) == 0) {
            return EXTREMES[random.nextInt(EXTREMES.length)];
        }
        int people = naive.river.people.size();
        int gaps = naive.river.gaps;
        int hours = naive.river.hours;
        switch (kind) {
            case 'p':
                return wild || people == 0 ? random.nextInt(8) - 1 : random.nextInt(people);
            case 's':
                return wild ? random.nextInt(12) - 1 : random.nextInt(5) == 0 ? 8 : random.nextInt(2 * gaps);
            case 'a':
                return wild ? random.nextInt(10) - 1 : random.nextInt(7);
            case 'h':
                return wild ? random.nextInt(8) - 1 : random.nextInt(hours);
            case 'g':
                return wild ? random.nextInt(7) - 2 : random.nextInt(gaps + 1) - 1;
            case 't':
                return wild ? random.nextInt(6) - 1 : random.nextInt(4);
            case 'w':
                return random.nextInt(wild ? 8 : 6) - (wild ? 1 : 0);
            case 'n':
                return wild ? random.nextInt(1200) - 100 : random.nextInt(41);
            case 'f':
                return wild ? random.nextInt(120) - 10 : random.nextInt(8);
            case 'k':
                return wild ? random.nextInt(52) - 1 : 1 + random.nextInt(3);
            case 'u':
                return wild ? random.nextInt(13) - 1 : 1 + random.nextInt(3);
            case 'x':
                return random.nextInt();
            case 'y':
                return wild ? random.nextInt(44) - 1 : 1 + random.nextInt(12);
            case 'i':
                return wild ? random.nextInt(45) - 2 : random.nextInt(5);
            case 'm':
                return random.nextInt(wild ? 16 : 13) - (wild ? 1 : 0);
            case 'r':
                return wild ? random.nextInt(65) - 2 : random.nextInt(12);
            case 'b':
                return wild ? random.nextInt(20) - 1 : random.nextBoolean() ? random.nextInt(2) : 10 + random.nextInt(hours);
            case 'c':
                return random.nextInt(wild ? 13 : 10) - (wild ? 1 : 0);
            case 'l':
                return random.nextInt(wild ? 110 : 101) - (wild ? 3 : 0);
            case 'z':
                return wild ? random.nextInt(6) - 1 : random.nextInt(4);
            case 'v':
                return deedNumber();
            case 'j':
                return random.nextInt(wild ? 4 : 2) - (wild ? 1 : 0);
            default:
                return random.nextInt(14) - 1;
        }
    }

    private long deedNumber() {
        switch (random.nextInt(8)) {
            case 0:
            case 1:
                return -1;
            case 2:
                return 100 + 10 * random.nextInt(random.nextInt(4) == 0 ? 6 : naive.river.hours) + random.nextInt(5);
            case 3:
                return random.nextInt(3) == 0 ? random.nextLong() : 199 + random.nextInt(12);
            case 4:
                return 109 + 10 * random.nextInt(naive.river.hours);
            default:
                return 10L * random.nextInt(Math.max(1, naive.river.people.size())) + random.nextInt(7);
        }
    }

    private String fillDeeds() throws Exception {
        int tray = random.nextInt(4);
        int n = random.nextInt(14);
        String fault = both("numbers", tray, random.nextInt(4), n);
        for (int i = 0; i < n && fault == null; i++) {
            fault = both("write", tray, i, deedNumber());
        }
        for (int what = 0; what < 4 && fault == null; what++) {
            fault = both("judge", tray, what);
        }
        return fault == null && random.nextBoolean() ? both("perform", tray) : fault;
    }

    /** A tray of spots along a walk that can be by a week that is partly another one. */
    private String fillSeen() throws Exception {
        int people = naive.river.people.size();
        if (people == 0) {
            return null;
        }
        int tray = random.nextInt(4);
        int n = random.nextInt(10) == 0 ? random.nextInt(15) : 1 + random.nextInt(12);
        int p = random.nextInt(people);
        int[] week = naive.now.week.clone();
        week[random.nextInt(week.length)] = random.nextInt(naive.river.gaps + 1) - 1;
        int spot = random.nextInt(2 * naive.river.gaps);
        String fault = both("numbers", tray, random.nextInt(4), n);
        for (int i = 0; i < n && fault == null; i++) {
            int told = random.nextInt(4) == 0 ? -1 : random.nextInt(60) == 0 ? random.nextInt(11) - 1 : spot;
            fault = both("write", tray, i, (long) told);
            List<Integer> next = new ArrayList<>(naive.after(p, java.util.Set.of(spot), i, week));
            spot = next.get(random.nextInt(next.size()));
        }
        for (int h = 0; h < week.length && fault == null; h++) {
            fault = both("fits", tray, p, h);
        }
        if (fault == null) {
            fault = both("surest", tray, p);
        }
        return fault == null ? both("odd", tray, p) : fault;
    }

    private String feedText(String text) throws Exception {
        byte[] bytes = text.getBytes(StandardCharsets.ISO_8859_1);
        int n = Math.min(900, bytes.length);
        byte[] padded = Arrays.copyOf(Arrays.copyOf(bytes, n), (n + 19) / 20 * 20);
        log.add("text: " + text.replace("\n", "\\n"));
        if (naive.tape.length() > 0) {
            String fault = both("river", 0);
            if (fault != null) {
                return fault;
            }
        }
        java.nio.ByteBuffer ints = java.nio.ByteBuffer.wrap(padded);
        for (int i = 0; i < padded.length; i += 20) {
            String fault = both("feed", ints.getInt(), ints.getInt(), ints.getInt(), ints.getInt(), ints.getInt());
            if (fault != null) {
                return fault;
            }
        }
        String fault = both("river", random.nextInt(20) == 0 ? random.nextInt(n + 30) - 5 : n);
        for (int what = -1; what < 3 && fault == null; what++) {
            fault = both("fault", what);
        }
        return fault;
    }

    private String pick(String... of) {
        return of[random.nextInt(of.length)];
    }

    private String riverText() {
        int gaps = 2 + random.nextInt(3);
        int hours = large ? 5 + random.nextInt(2) : 1 + random.nextInt(gaps == 4 ? 3 : 4);
        StringBuilder text = new StringBuilder("river " + gaps + " week " + hours + pick(";", " ;\n", "; "));
        int lines = random.nextInt(12);
        boolean crowded = random.nextBoolean();
        if (crowded) {
            lines = 5 + hours + random.nextInt(5);
        }
        int people = 0;
        for (int i = 0; i < lines; i++) {
            int kind = crowded && i < 5 ? 4 : crowded && i < 5 + hours ? 0 : random.nextInt(12);
            if (kind < 4) {
                text.append("span " + random.nextInt(hours) + pick(" rest", " at " + random.nextInt(gaps), "at " + random.nextInt(gaps)));
            } else if (kind < 8 && (people < 5 || random.nextInt(10) == 0)) {
                people++;
                text.append("person at " + spotText(gaps));
                while (random.nextInt(3) > 0) {
                    text.append(random.nextInt(3) == 0 ? " load " + random.nextInt(100)
                        : " to " + spotText(gaps) + " by " + random.nextInt(random.nextInt(3) == 0 ? 70 : crowded ? 25 : 14));
                }
            } else if (kind == 8) {
                text.append("walks:" + truth(random.nextInt(3), true));
            } else if (kind == 9) {
                text.append("serves :" + truth(random.nextInt(3), false));
            } else if (kind == 10) {
                text.append("foggy " + random.nextInt(11));
            } else {
                text.append("hour " + random.nextInt(random.nextInt(4) == 0 ? 1000 : 8));
            }
            text.append(pick(";", " ;", ";\n"));
        }
        return text.toString();
    }

    private String spotText(int gaps) {
        return random.nextInt(gaps) + pick(" west", " east", "west", "east");
    }

    private String truth(int deep, boolean walking) {
        StringBuilder all = new StringBuilder(both(deep, walking));
        while (random.nextInt(3) == 0) {
            all.append(" or ").append(both(deep, walking));
        }
        return all.toString();
    }

    private String both(int deep, boolean walking) {
        StringBuilder all = new StringBuilder(unit(deep, walking));
        while (random.nextInt(3) == 0) {
            all.append(" and ").append(unit(deep, walking));
        }
        return all.toString();
    }

    private String unit(int deep, boolean walking) {
        if (deep > 0 && random.nextInt(3) == 0) {
            return "not " + unit(deep - 1, walking);
        }
        if (deep > 0 && random.nextInt(3) == 0) {
            return "[" + truth(deep - 1, walking) + "]";
        }
        return sum(deep, walking) + pick("=", "<", ">", " < ", " > ") + sum(deep, walking);
    }

    private String sum(int deep, boolean walking) {
        StringBuilder all = new StringBuilder(term(deep, walking));
        while (random.nextInt(4) == 0) {
            all.append(pick("+", "-", " - ")).append(term(deep, walking));
        }
        return all.toString();
    }

    private String term(int deep, boolean walking) {
        StringBuilder all = new StringBuilder(atom(deep, walking));
        while (random.nextInt(4) == 0) {
            all.append("*").append(atom(deep, walking));
        }
        return all.toString();
    }

    private String atom(int deep, boolean walking) {
        if (deep > 0 && random.nextInt(4) == 0) {
            return "(" + sum(deep - 1, walking) + ")";
        }
        if (random.nextInt(3) == 0) {
            return "" + random.nextInt(pick("s", "l").equals("s") ? 5 : 1000);
        }
        return pick("gap", "hour", "who", "load", "fog", walking ? "side" : "gap");
    }

    private String mutated(String text) {
        StringBuilder t = new StringBuilder(text);
        int times = 1 + random.nextInt(2);
        for (int i = 0; i < times && t.length() > 0; i++) {
            int at = random.nextInt(t.length());
            switch (random.nextInt(6)) {
                case 0:
                    t.deleteCharAt(at);
                    break;
                case 1:
                    t.insert(at, pick("not ", "[", "(", ")", "]", " side ", " river ", ";", "9", "=", "x", " person at 0 west;", "*"));
                    break;
                case 2:
                    t.setCharAt(at, (char) random.nextInt(256));
                    break;
                case 3:
                    t.setLength(at);
                    break;
                case 4:
                    t.insert(at, pick("((((((", "[[[[", "not not not ", "1000", "0001", "(((((((", "007"));
                    break;
                default:
                    t.setCharAt(at, pick("0", "7", "a", " ", "-", ":", "<").charAt(0));
            }
        }
        return t.toString();
    }

    private String both(String name, Object... args) throws Exception {
        calls++;
        Object want = called(naive, name, args);
        Object got;
        try {
            got = called(span, name, args);
        } catch (InvocationTargetException e) {
            got = e.getCause();
        }
        log.add(name + Arrays.toString(args) + " -> " + got);
        ANSWERS.computeIfAbsent(name, k -> new TreeMap<>()).merge(((Number) want).longValue(), 1, Integer::sum);
        return want.equals(got) ? null : name + Arrays.toString(args) + " answered " + got + ", due is " + want;
    }

    private static Object called(Object on, String name, Object[] args) throws Exception {
        for (Method m : on.getClass().getDeclaredMethods()) {
            if (m.getName().equals(name) && m.getParameterCount() == args.length) {
                m.setAccessible(true);
                return m.invoke(on, args);
            }
        }
        throw new IllegalStateException("no method " + name);
    }
}
