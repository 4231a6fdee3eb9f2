import java.math.BigInteger;
import java.util.Random;

/**
 * Calls held against other calls of the same class, without any model: what is told of the hours to come against
 * acting and undoing, weeks against telling them, trays against single deeds. An argument sets the first seed, another
 * how many rivers.
 */
public final class AgreementTest {
    private static final Checks C = new Checks();
    private static final int NONE = MovedSpan.NONE;
    private static final String[] LAWS = {"", "", "walks:side=hour or load>20;", "serves:gap+hour>who and fog=0;",
        "walks:not [gap=1 and fog=1];serves:load<60 or fog=1;", "serves:(hour+who)*2>gap-1;", "walks:fog=0;serves:1=1;"};

    private final Random random;
    private final String text;
    private final int gaps;
    private final int hours;
    private final int people;

    private AgreementTest(long seed) {
        random = new Random(seed);
        gaps = 2 + random.nextInt(3);
        hours = 1 + random.nextInt(6);
        people = 1 + random.nextInt(5);
        StringBuilder all = new StringBuilder("river " + gaps + " week " + hours + ";foggy " + random.nextInt(11) + ";");
        for (int h = 0; h < hours; h++) {
            all.append("span " + h + (random.nextInt(4) == 0 ? " rest;" : " at " + random.nextInt(gaps) + ";"));
        }
        for (int p = 0; p < people; p++) {
            all.append("person at " + spotText() + " load " + random.nextInt(100));
            all.append(random.nextInt(5) > 0 ? " to " + spotText() + " by " + (5 + random.nextInt(18)) + ";" : ";");
        }
        text = all.append("hour " + random.nextInt(7) + ";" + LAWS[random.nextInt(LAWS.length)]).toString();
    }

    public static void main(String[] args) {
        long first = args.length > 0 ? Long.parseLong(args[0]) : 1;
        int rivers = args.length > 1 ? Integer.parseInt(args[1]) : 400;
        for (long seed = first; seed < first + rivers; seed++) {
            AgreementTest one = new AgreementTest(seed);
            one.stepByStep();
            one.waysLead();
            one.spotsAndMeetings();
            one.errands();
            one.weeksTold();
            one.allWeeks();
            one.seen();
            one.seenTwice();
            one.chancesByFog();
            one.traysAndCalls();
            one.yearAndCalls();
        }
        C.end("AgreementTest");
    }

    private String spotText() {
        return random.nextInt(gaps) + (random.nextBoolean() ? " west" : " east");
    }

    private int anySpot() {
        return random.nextInt(4) == 0 ? 8 : random.nextInt(2 * gaps);
    }

    /** The river on a new object, some random deeds having been done; the same ones for the same number. */
    private MovedSpan begun(int deeds) {
        MovedSpan x = Checks.river(text);
        if (deeds > 0) {
            x.year(deeds * 7919, deeds);
            x.fog(deeds % 5);
        }
        return x;
    }

    private void topic(String calls) {
        C.topic(calls + " of " + text);
    }

    private static int[] week(MovedSpan x) {
        int[] week = new int[x.count(1)];
        for (int n = 0; n < week.length; n++) {
            week[(x.count(6) + n) % week.length] = x.span(n);
        }
        return week;
    }

    private static int inTime(MovedSpan x) {
        return Integer.bitCount(x.inTime());
    }

    /** Soonest and ways from here are those from wherever an act leads in an hour. */
    private void stepByStep() {
        topic("promises 16, 18: soonest, ways");
        MovedSpan x = begun(random.nextInt(12));
        int p = random.nextInt(people);
        int spot = anySpot();
        int n = 1 + random.nextInt(12);
        int soonest = x.soonest(p, spot);
        long ways = x.ways(p, spot, n);
        int fewest = NONE;
        long sum = 0;
        for (int act = 0; act < 7; act++) {
            if (x.why(p, act) != 0) {
                continue;
            }
            int to = x.act(p, act);
            x.hours(1);
            C.due("act " + act + " leads", x.person(p, 0), to);
            int then = x.soonest(p, spot);
            fewest = then != NONE && (fewest == NONE || then + 1 < fewest) ? then + 1 : fewest;
            sum += x.ways(p, spot, n - 1);
            x.undo(2);
        }
        if (x.person(p, 0) == spot) {
            C.due("soonest, being there", soonest, 0);
        } else {
            C.due("soonest by acts", soonest, fewest > 60 ? NONE : fewest);
        }
        C.due("ways by acts", ways, sum);
    }

    /** What lists puts leads there in the hours soonest tells; no act ahead of the one told leads there so soon. */
    private void waysLead() {
        topic("promises 17, 37: way, lists");
        MovedSpan x = begun(random.nextInt(12));
        int p = random.nextInt(people);
        int spot = anySpot();
        int soonest = x.soonest(p, spot);
        x.numbers(2, random.nextInt(4), 40);
        int listed = x.lists(2, p, spot);
        C.due("lists", listed, soonest == NONE ? -5 : Math.min(40, 2 * soonest));
        C.due("behind the way", x.way(p, spot, Math.max(0, soonest)), NONE);
        for (int i = 0; i < soonest && i < 12; i++) {
            int act = x.way(p, spot, 0);
            for (int other = 0; other < act; other++) {
                if (x.why(p, other) == 0) {
                    x.act(p, other);
                    x.hours(1);
                    C.holds("act " + other + " leads there later", x.soonest(p, spot) != soonest - i - 1);
                    x.undo(2);
                }
            }
            x.act(p, act);
            x.hours(1);
            C.due("soonest behind " + (i + 1) + " acts", x.soonest(p, spot), soonest - i - 1);
        }
    }

    private void spotsAndMeetings() {
        topic("promises 19, 20, 21: reach, meet, meetAt");
        MovedSpan x = begun(random.nextInt(12));
        int p = random.nextInt(people);
        int n = random.nextInt(13);
        int reached = 0;
        for (int s = 0; s < 9; s++) {
            int soonest = x.soonest(p, s);
            reached |= soonest >= 0 && soonest <= n ? 1 << s : 0;
            C.holds("ways to " + s, soonest == -2 || x.ways(p, s, n) > 0 == (soonest >= 0 && soonest <= n));
        }
        C.due("reach", x.reach(p, n), reached);
        if (people > 1) {
            int q = (p + 1) % people;
            int meet = NONE;
            int at = NONE;
            for (int s = 0; s < 9; s++) {
                int later = Math.max(x.soonest(p, s), x.soonest(q, s));
                boolean both = x.soonest(p, s) >= 0 && x.soonest(q, s) >= 0;
                if (both && (meet == NONE || later < meet)) {
                    meet = later;
                    at = s;
                }
            }
            C.due("meet", x.meet(p, q), meet);
            C.due("meetAt", x.meetAt(p, q), at);
            C.due("meet, the other way round", x.meet(q, p), meet);
            C.due("meetAt, the other way round", x.meetAt(q, p), at);
        }
    }

    private void errands() {
        topic("promises 22, 23, 24: inTime, spare, needs");
        MovedSpan x = begun(random.nextInt(12));
        int p = random.nextInt(people);
        if (x.person(p, 2) == NONE) {
            C.due("spare, without an errand", x.spare(p), -5);
            C.due("needs, without an errand", x.needs(p), -5);
            return;
        }
        int to = x.soonest(p, x.person(p, 2));
        boolean done = x.person(p, 4) == 1;
        boolean can = done || to != NONE && to + x.count(6) <= x.person(p, 3);
        C.due("inTime", x.inTime() >> p & 1, can ? 1 : 0);
        int needed = 0;
        for (int h = 0; h < hours; h++) {
            x.tell(h, NONE);
            needed |= (x.inTime() >> p & 1) == 0 ? 1 << h : 0;
            x.undo(1);
        }
        C.due("needs", x.needs(p), can ? needed : NONE);
        int spare = x.spare(p);
        if (x.person(p, 5) != 0) {
            x.act(p, 0);
        }
        int most = NONE;
        for (int s = 0; s <= 60; s++) {
            most = (x.inTime() >> p & 1) == 1 ? s : most;
            x.hours(1);
        }
        C.due("spare", spare, most);
    }

    private void weeksTold() {
        topic("promises 25, 26, 27, 29: moves, best, change, shift");
        MovedSpan x = begun(random.nextInt(12));
        int now = inTime(x);
        int[] week = week(x);
        int change = NONE;
        int most = now;
        for (int h = 0; h < hours; h++) {
            for (int g = 0; g <= gaps; g++) {
                x.tell(h, g < gaps ? g : NONE);
                int count = inTime(x);
                change = count > most ? 10 * h + (g < gaps ? g : 9) : change;
                most = Math.max(most, count);
                x.undo(1);
            }
        }
        C.due("change", x.change(), change);
        C.holds("best is no worse than a change", x.best(0) >= most);
        int shift = x.shift();
        int least = NONE;
        most = NONE;
        for (int s = 0; s < hours; s++) {
            for (int h = 0; h < hours; h++) {
                x.tell((h + s) % hours, week[h]);
            }
            least = inTime(x) > most ? s : least;
            most = Math.max(most, inTime(x));
        }
        C.due("shift", shift, least);
        int count = x.best(0);
        int moves = x.best(1);
        int[] best = new int[hours];
        for (int h = 0; h < hours; h++) {
            best[h] = x.best(10 + h);
        }
        for (int h = 0; h < hours; h++) {
            x.tell(h, best[h]);
        }
        C.due("best, told", inTime(x), count);
        C.due("its moves, told", x.moves(), moves);
        C.due("no change of the best", x.change(), NONE);
        C.holds("some week does for all if the best does", x.weeks() > 0 == (count == Integer.bitCount(x.count(3))));
    }

    /** Each week is told, the first by hours first; objects are made anew, as one takes 512 calls only. */
    private void allWeeks() {
        topic("promises 26, 28: best, weeks");
        int all = 1;
        for (int h = 0; h < hours; h++) {
            all *= gaps + 1;
        }
        if (all > 700) {
            return;
        }
        int deeds = random.nextInt(12);
        MovedSpan x = begun(deeds);
        int weeks = x.weeks();
        int[] due = {x.best(0), x.best(1), NONE};
        int good = 0;
        int[] best = {NONE, NONE, NONE};
        for (int w = 0; w < all; w++) {
            if (w % 40 == 0) {
                x = begun(deeds);
            }
            int rest = w;
            for (int h = hours - 1; h >= 0; h--) {
                x.tell(h, rest % (gaps + 1) < gaps ? rest % (gaps + 1) : NONE);
                rest /= gaps + 1;
            }
            good += x.inTime() == x.count(3) ? 1 : 0;
            int count = inTime(x);
            if (count > best[0] || count == best[0] && x.moves() < best[1]) {
                best = new int[] {count, x.moves(), w};
            }
        }
        C.due("weeks", weeks, good);
        C.due("best(0)", due[0], best[0]);
        C.due("best(1)", due[1], best[1]);
        int rest = best[2];
        x = begun(deeds);
        for (int h = hours - 1; h >= 0; h--) {
            C.due("best in hour " + h, x.best(10 + h), rest % (gaps + 1) < gaps ? rest % (gaps + 1) : NONE);
            rest /= gaps + 1;
        }
    }

    /** Somebody acts by a week of which an hour is another one; the spots are put, some not seen. */
    private void seen() {
        topic("promises 30, 31, 32: fits, surest, odd");
        int deeds = random.nextInt(12);
        MovedSpan x = begun(deeds);
        MovedSpan walked = begun(deeds);
        int p = random.nextInt(people);
        int other = random.nextInt(hours);
        int lay = random.nextInt(gaps + 1) - 1;
        walked.tell(other, lay);
        int n = 1 + random.nextInt(12);
        x.numbers(0, 0, n);
        for (int i = 0; i < n; i++) {
            x.write(0, i, random.nextInt(4) == 0 ? NONE : walked.person(p, 0));
            walked.act(p, random.nextInt(7));
            walked.hours(1);
        }
        int[] fits = new int[hours];
        int fewest = 9;
        int surest = NONE;
        for (int h = 0; h < hours; h++) {
            fits[h] = x.fits(0, p, h);
            int count = Integer.bitCount(fits[h]);
            surest = count > 0 && count < fewest ? h : surest;
            fewest = count > 0 ? Math.min(fewest, count) : fewest;
        }
        C.holds("where it lay fits", (fits[other] >> (lay == NONE ? 4 : lay) & 1) == 1);
        C.due("surest", x.surest(0, p), surest);
        for (int h = 0; h < hours; h++) {
            for (int g = 0; g <= gaps; g++) {
                x.tell(h, g < gaps ? g : NONE);
                C.due("hour " + h + ", gap " + g, fits[h] >> (g < gaps ? g : 4) & 1, x.odd(0, p) == NONE ? 1 : 0);
                x.undo(1);
            }
        }
    }

    /** Who was seen where it is, then hours later at some spot, can have come there if it can reach it by then. */
    private void seenTwice() {
        topic("promises 19, 32: reach, odd");
        MovedSpan x = begun(random.nextInt(12));
        int p = random.nextInt(people);
        for (int n = 1; n < 12; n++) {
            x.numbers(1, 2, n + 1);
            x.write(1, 0, x.person(p, 0));
            for (int i = 1; i < n; i++) {
                x.write(1, i, NONE);
            }
            int spot = anySpot();
            x.write(1, n, spot);
            C.due("odd, " + n + " hours later at " + spot, x.odd(1, p), (x.reach(p, n) >> spot & 1) == 1 ? NONE : n);
        }
    }

    private static BigInteger[] fraction(MovedSpan x, int p, int spot, int n) {
        return new BigInteger[] {BigInteger.valueOf(x.chance(p, spot, n, 0)), BigInteger.valueOf(x.chance(p, spot, n, 1))};
    }

    private static boolean isAbove(BigInteger[] a, BigInteger[] b) {
        return a[0].multiply(b[1]).compareTo(b[0].multiply(a[1])) > 0;
    }

    /** The chance from here is that of the likeliest acts with fog and without, weighed. */
    private void chancesByFog() {
        topic("promises 33, 34: chance, likely");
        MovedSpan x = begun(random.nextInt(12));
        int p = random.nextInt(people);
        int spot = anySpot();
        int n = 1 + random.nextInt(9);
        BigInteger[] chance = fraction(x, p, spot, n);
        BigInteger[][] most = new BigInteger[2][];
        for (int fogs = 0; fogs < 2; fogs++) {
            x.fog(fogs);
            most[fogs] = new BigInteger[] {BigInteger.ZERO, BigInteger.ONE};
            for (int act = 0; act < 7; act++) {
                if (x.why(p, act) == 0) {
                    x.act(p, act);
                    x.hours(1);
                    BigInteger[] then = fraction(x, p, spot, n - 1);
                    most[fogs] = isAbove(then, most[fogs]) ? then : most[fogs];
                    x.undo(2);
                }
            }
        }
        BigInteger foggy = BigInteger.valueOf(x.count(8));
        BigInteger above = most[1][0].multiply(foggy).multiply(most[0][1])
            .add(most[0][0].multiply(BigInteger.TEN.subtract(foggy)).multiply(most[1][1]));
        BigInteger below = BigInteger.TEN.multiply(most[0][1]).multiply(most[1][1]);
        if (x.person(p, 0) == spot) {
            above = below;
        }
        C.due("number above", chance[0].longValue(), above.divide(above.gcd(below)).longValue());
        C.due("number below", chance[1].longValue(), below.divide(above.gcd(below)).longValue());
        int m = random.nextInt(101);
        BigInteger[] wanted = {BigInteger.valueOf(m), BigInteger.valueOf(100)};
        int fewest = NONE;
        for (int k = 9; k >= 0; k--) {
            fewest = isAbove(wanted, fraction(x, p, spot, k)) ? fewest : k;
        }
        C.due("likely " + m, x.likely(p, spot, m), fewest);
    }

    /** Does a deed of a tray by a call of its own: why it can't be, or 0. */
    private static int call(MovedSpan x, int deed) {
        if (deed == NONE) {
            x.hours(1);
            return 0;
        }
        if (deed < 50) {
            int answer = x.act(deed / 10, deed % 10);
            return answer < 0 ? -10 - answer : 0;
        }
        if (deed < 160) {
            return x.tell((deed - 100) / 10, deed % 10 == 9 ? NONE : deed % 10) == -2 ? 1 : 0;
        }
        x.fog(deed - 200);
        return 0;
    }

    private void traysAndCalls() {
        topic("promises 13, 14: judge, perform");
        int deeds = random.nextInt(12);
        MovedSpan x = begun(deeds);
        MovedSpan single = begun(deeds);
        int n = random.nextInt(41);
        int could = 0;
        int why = 0;
        x.numbers(3, 1, n);
        for (int i = 0; i < n; i++) {
            int kind = random.nextInt(20);
            int deed = kind < 9 ? NONE : kind < 17 ? 10 * random.nextInt(people) + random.nextInt(3) * random.nextInt(4)
                : kind < 19 ? 100 + 10 * random.nextInt(hours) + random.nextInt(gaps) : 200 + random.nextInt(10);
            x.write(3, i, deed);
            why = why == 0 ? call(single, deed) : why;
            could += why == 0 ? 1 : 0;
        }
        String before = Probe.state(x);
        C.due("judge 0", x.judge(3, 0), could == n ? NONE : could);
        C.due("judge 1", x.judge(3, 1), why);
        C.due("judge 2", x.judge(3, 2), single.count(4));
        C.due("judge 3", x.judge(3, 3), single.count(6));
        C.same("judging changes nothing", Probe.state(x), before);
        int undoing = x.count(9);
        C.due("perform", x.perform(3), could);
        C.due("calls to undo", x.count(9), undoing + (could > 0 ? 1 : 0));
        if (could > 0) {
            x.undo(1);
        }
        C.same("undone", Probe.state(x), before);
        x.perform(3);
        C.same("performed", withoutUndoing(x), withoutUndoing(single));
    }

    /** All that can be seen at once, but how many calls can be undone. */
    private static String withoutUndoing(MovedSpan x) {
        x.image(0);
        x.restore(0);
        return Probe.state(x);
    }

    private void yearAndCalls() {
        topic("promise 15: year");
        MovedSpan x = begun(0);
        MovedSpan single = begun(0);
        int seed = random.nextInt();
        int times = 1 + random.nextInt(40);
        int[] drawn = {seed};
        int could = 0;
        for (int i = 0; i < times; i++) {
            int kind = draw(drawn) % 4;
            int deed = kind == 0 ? NONE : kind == 3 ? 200 + draw(drawn) % 3 : draw(drawn) % people * 10 + draw(drawn) % 7;
            could += call(single, deed) == 0 ? 1 : 0;
        }
        C.due("year", x.year(seed, times), could);
        C.same("a year by calls", withoutUndoing(x), withoutUndoing(single));
    }

    private static int draw(int[] x) {
        x[0] = (int) (1103515245L * x[0] + 12345L);
        return (int) ((x[0] & 0xffffffffL) / 65536);
    }
}
