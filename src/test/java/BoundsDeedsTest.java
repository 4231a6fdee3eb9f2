import java.util.ArrayList;
import java.util.List;

/** Deeds, sentence by sentence: what names a boundary, at it and beside it. Promises 8 to 15. */
public final class BoundsDeedsTest {
    private static final Checks C = new Checks();
    private static final int NONE = MovedSpan.NONE;
    private static final int[] FAR = {Integer.MIN_VALUE, Integer.MIN_VALUE + 1, -1000, 1000000, Integer.MAX_VALUE};
    /** Five people at gap 0 west, where the span lies in each of six hours. */
    private static final String FIVE = "river 4 week 6;" + "person at 0 west;".repeat(5);

    public static void main(String[] args) {
        act();
        actKept();
        tell();
        fog();
        hours();
        anHour();
        errandsDone();
        undo();
        eldestForgotten();
        undoneAsAWhole();
        deedNumbers();
        deedsOfNobody();
        deedsOfManyBits();
        judge();
        perform();
        year();
        yearWithoutPeople();
        C.end("BoundsDeedsTest");
    }

    private static void act() {
        C.sentence(8, "the SPOT where it would be then");
        MovedSpan x = Checks.river("river 4 week 6;span 0 at 3;person at 3 west;person at 2 east;");
        C.due("stay", x.act(0, 0), 6);
        C.due("down", x.act(0, 2), 4);
        C.due("cross", x.act(0, 3), 7);
        C.due("on", x.act(0, 4), 8);
        C.due("up", x.act(1, 1), 7);
        x.act(0, 4);
        x.hours(1);
        x.tell(1, 2);
        C.due("stay on the span", x.act(0, 0), 8);
        C.due("off to the west", x.act(0, 5), 4);
        C.due("off to the east", x.act(0, 6), 5);
        C.due("cross to the west", x.act(1, 3), -12);
        x.tell(1, 3);
        C.due("cross to the west", x.act(1, 3), 6);
        C.due("off at the last gap", x.act(0, 5), 6);
        C.due("off at the last gap", x.act(0, 6), 7);
        C.sentence(8, "-11 to -13");
        MovedSpan y = Checks.river("river 2 week 1;person at 0 west;person at 1 east;walks:who=1;serves:who=1;");
        C.due("no such person", y.act(2, 0), -11);
        C.due("no such person", y.act(-1, 0), -11);
        C.due("no such act", y.act(0, 7), -11);
        C.due("no such act", y.act(0, -1), -11);
        for (int far : FAR) {
            C.due("act(" + far + ", 0)", y.act(far, 0), -11);
            C.due("act(0, " + far + ")", y.act(0, far), -11);
        }
        C.due("no next gap", y.act(1, 1), -12);
        C.due("no gap ahead", y.act(0, 2), -12);
        C.due("elsewhere", y.act(1, 4), -12);
        C.due("not on it", y.act(0, 5), -12);
        C.due("the law walks", y.act(0, 1), -13);
        C.due("the law serves", y.act(0, 3), -13);
        C.due("nothing was told", y.person(0, 5) + y.person(1, 5) + y.count(9), 0);
        C.due("without people", new MovedSpan().act(0, 0), -11);
    }

    private static void actKept() {
        C.sentence(8, "it is kept what a PERSON does in this HOUR (STAY, if nothing was told; a later ACT strikes)");
        MovedSpan x = Checks.river(FIVE);
        C.due("nothing was told", x.person(0, 5), 0);
        x.act(0, 1);
        x.act(0, 3);
        C.due("a later act", x.person(0, 5), 3);
        x.act(0, 2);
        C.due("one that can't be strikes nothing", x.person(0, 5), 3);
        x.act(0, 0);
        C.due("to stay strikes, too", x.person(0, 5), 0);
        x.act(4, 1);
        C.due("not done yet", x.person(4, 0), 0);
        x.hours(1);
        C.due("who was told nothing stays", x.person(0, 0) + x.person(1, 0), 0);
        C.due("the other one went", x.person(4, 0), 2);
    }

    private static void tell() {
        C.sentence(9, "In an HOUR of the WEEK THE SPAN lies at a GAP (NONE: it RESTS): where it lay (NONE: it RESTED)");
        for (int gaps = 2; gaps <= 4; gaps++) {
            for (int hours = 1; hours <= 6; hours++) {
                MovedSpan x = Checks.river("river " + gaps + " week " + hours + ";");
                C.due("the last hour at the last gap", x.tell(hours - 1, gaps - 1), 0);
                C.due("it lies there", x.span(hours - 1), gaps - 1);
                C.due("it rests", x.tell(hours - 1, NONE), gaps - 1);
                C.due("it rests there", x.span(hours - 1), NONE);
                C.due("it rested", x.tell(hours - 1, 0), NONE);
                C.due("calls", x.count(9), 3);
                C.sentence(9, "-2: no such HOUR, GAP");
                C.due("hour -1", x.tell(-1, 0), -2);
                C.due("hour above", x.tell(hours, 0), -2);
                C.due("gap -2", x.tell(0, -2), -2);
                C.due("gap above", x.tell(0, gaps), -2);
                C.due("resting as in a tray", x.tell(0, 9), -2);
                C.due("calls", x.count(9), 3);
            }
        }
        MovedSpan y = new MovedSpan();
        for (int far : FAR) {
            C.due("tell(" + far + ", 0)", y.tell(far, 0), -2);
            C.due("tell(0, " + far + ")", y.tell(0, far), -2);
        }
        C.due("the same again is a call, too", y.tell(0, 0) * 10 + y.count(9), 1);
    }

    private static void fog() {
        C.sentence(10, "FOG for n HOURS (0 to 99): for how many it was. -3.");
        MovedSpan x = Checks.river(FIVE);
        C.due("-1", x.fog(-1), -3);
        C.due("100", x.fog(100), -3);
        for (int far : FAR) {
            C.due("fog(" + far + ")", x.fog(far), -3);
        }
        C.due("none at first", x.count(7) * 10 + x.count(9), 0);
        C.due("0", x.fog(0), 0);
        C.due("99", x.fog(99), 0);
        C.due("it was 99", x.fog(1), 99);
        C.sentence(10, "It FOGS for as many HOURS as told (from this one on; none at first)");
        C.due("this hour", x.why(0, 3), 3);
        x.hours(1);
        C.due("not the next", x.why(0, 3), 0);
        x.hours(1);
        C.due("none is not less than none", x.count(7), 0);
        x.fog(2);
        x.hours(1);
        C.due("the second hour", x.why(0, 3), 3);
        x.hours(1);
        C.due("the third", x.why(0, 3), 0);
        x.fog(99);
        x.hours(48);
        x.hours(48);
        C.due("a fog lasts 1 less each hour", x.count(7), 3);
        x.hours(2);
        C.due("the 99th hour", x.count(7) * 10 + x.why(0, 3), 13);
        x.hours(1);
        C.due("the 100th", x.count(7) * 10 + x.why(0, 3), 0);
        x.fog(7);
        x.fog(0);
        C.due("no fog any more", x.why(0, 3), 0);
    }

    private static void hours() {
        C.sentence(11, "n HOURS (1 to 48). -3.");
        MovedSpan x = new MovedSpan();
        C.due("0", x.hours(0), -3);
        C.due("-1", x.hours(-1), -3);
        C.due("49", x.hours(49), -3);
        for (int far : FAR) {
            C.due("hours(" + far + ")", x.hours(far), -3);
        }
        C.due("no hour passed", x.count(6) * 10 + x.count(9), 0);
        C.due("1", x.hours(1), 0);
        C.due("hour", x.count(6), 1);
        C.due("48", x.hours(48), 0);
        C.due("hour", x.count(6), 49);
        MovedSpan late = Checks.river("river 2 week 1;hour 999;");
        late.hours(48);
        C.due("hours go on above 999", late.count(6), 1047);
    }

    private static void anHour() {
        C.sentence(11, "all do their ACTS at once (whose ACT can't be any more STAYS)");
        MovedSpan x = Checks.river(FIVE);
        int[] acts = {0, 1, 3, 4, 4};
        int[] spots = {0, 2, 1, 8, 8};
        for (int p = 0; p < 5; p++) {
            x.act(p, acts[p]);
        }
        x.hours(1);
        for (int p = 0; p < 5; p++) {
            C.due("person " + p, x.person(p, 0), spots[p]);
            C.due("all stay for the present", x.person(p, 5), 0);
        }
        C.due("on the span", x.count(5), 24);
        x.act(0, 3);
        x.act(1, 1);
        x.act(3, 5);
        x.act(4, 6);
        x.tell(1, NONE);
        x.hours(1);
        C.due("the span rests now", x.person(0, 0) * 100 + x.person(3, 0) * 10 + x.person(4, 0), 88);
        C.due("who walks doesn't mind", x.person(1, 0), 4);
        x.act(3, 5);
        x.act(4, 6);
        x.tell(2, 3);
        x.hours(1);
        C.due("they get off where it lies then", x.person(3, 0) * 10 + x.person(4, 0), 67);
        x.act(0, 3);
        x.fog(1);
        x.hours(1);
        C.due("the law forbids it now", x.person(0, 0), 0);
        x.act(0, 3);
        x.hours(2);
        C.due("an act is done once", x.person(0, 0), 1);
        C.sentence(11, "HOUR is 1 more, a FOG lasts 1 less");
        x.fog(3);
        x.hours(2);
        C.due("hour, fog", x.count(6) * 10 + x.count(7), 81);
    }

    private static void errandsDone() {
        C.sentence(11, "how many ERRANDS were DONE in these");
        MovedSpan x = Checks.river("river 2 week 1;" + "person at 0 west to 1 west by 1;".repeat(5));
        for (int p = 0; p < 5; p++) {
            x.act(p, 1);
        }
        C.due("all five", x.hours(1), 5);
        C.due("done", x.count(4), 31);
        C.due("done once", x.hours(1), 0);
        x.act(0, 2);
        x.hours(1);
        C.due("done stays, wherever it goes", x.count(4), 31);
        x.act(0, 1);
        C.due("not again", x.hours(1), 0);
        C.sentence(11, "DONE it, if HOUR is not above that told");
        MovedSpan y = Checks.river("river 2 week 1;person at 0 west to 1 west by 4;person at 0 west to 1 west by 3;person at 0 west to 1 west by 5;person at 0 west;");
        y.hours(3);
        for (int p = 0; p < 4; p++) {
            y.act(p, 1);
        }
        C.due("in hour 4: by 4, by 5, not by 3", y.hours(1), 2);
        C.due("done", y.count(4), 5);
        C.due("who has none is not among them", y.person(3, 4), 0);
        MovedSpan z = Checks.river("river 2 week 1;person at 0 west to 1 west by 3;");
        z.act(0, 1);
        C.due("in the first of 48 hours", z.hours(48), 1);
        MovedSpan back = Checks.river("river 2 week 1;hour 5;person at 0 west to 0 west by 4;");
        C.due("too late at first, too late then", back.hours(1) + back.count(4), 0);
    }

    private static void undo() {
        C.sentence(12, "n calls (1 to 10) are UNDONE: how many still can be. -3: n, more than can be.");
        MovedSpan x = Checks.river(FIVE);
        C.due("nothing yet", x.undo(1), -3);
        for (int i = 1; i <= 10; i++) {
            x.fog(i);
            C.due("more than can be", x.undo(i + 1), -3);
            C.due("calls", x.count(9), i);
        }
        C.due("0", x.undo(0), -3);
        C.due("-1", x.undo(-1), -3);
        C.due("11", x.undo(11), -3);
        for (int far : FAR) {
            C.due("undo(" + far + ")", x.undo(far), -3);
        }
        C.due("nothing was undone", x.count(7), 10);
        C.due("1", x.undo(1), 9);
        C.due("the latest first", x.count(7), 9);
        C.due("4", x.undo(4), 5);
        C.due("fog", x.count(7), 5);
        C.due("6 are too many", x.undo(6), -3);
        C.due("5", x.undo(5), 0);
        C.due("fog", x.count(7), 0);
        C.due("none any more", x.undo(1), -3);
        for (int i = 1; i <= 10; i++) {
            x.fog(i);
        }
        C.due("10 at once", x.undo(10), 0);
        C.due("fog", x.count(7), 0);
    }

    private static void eldestForgotten() {
        C.sentence(12, "10 at most (eldest are forgotten)");
        MovedSpan x = Checks.river(FIVE);
        for (int i = 1; i <= 11; i++) {
            x.fog(i);
        }
        C.due("10 of 11", x.count(9), 10);
        C.due("all ten", x.undo(10), 0);
        C.due("the first is forgotten", x.count(7), 1);
        for (int i = 20; i < 55; i++) {
            x.fog(i);
        }
        C.due("10 of 35", x.count(9), 10);
        C.due("3", x.undo(3), 7);
        C.due("fog", x.count(7), 51);
        x.fog(70);
        x.fog(71);
        C.due("9 again", x.count(9), 9);
        x.fog(72);
        x.fog(73);
        C.due("10 at most again", x.count(9), 10);
        C.due("4", x.undo(4), 6);
        C.due("behind the forks", x.count(7), 51);
        C.due("the rest", x.undo(6), 0);
        C.due("the eldest kept", x.count(7), 45);
        C.due("no more", x.undo(1), -3);
        C.sentence(12, "HOUR, FOG, WEEK, SPOTS, ACTS told, ERRANDS DONE");
        MovedSpan y = Checks.river("river 3 week 2;hour 4;person at 0 west to 1 west by 5;person at 2 east;");
        List<String> seen = new ArrayList<>();
        seen.add(Probe.state(y));
        Runnable[] calls = {() -> y.act(0, 1), () -> y.act(1, 2), () -> y.tell(1, 2), () -> y.fog(7), () -> y.hours(1),
            () -> y.tell(0, NONE), () -> y.act(0, 1), () -> y.hours(48), () -> y.year(3, 40), () -> y.fog(1)};
        for (Runnable call : calls) {
            call.run();
            seen.add(Probe.state(y));
        }
        for (int i = 9; i >= 0; i--) {
            C.due("undo", y.undo(1), i);
            String due = seen.get(i);
            C.same("the state ahead of call " + i, Probe.state(y), due);
        }
    }

    private static void undoneAsAWhole() {
        C.sentence(12, "Calls that did some can be UNDONE each as a whole");
        MovedSpan x = Checks.river(FIVE);
        Checks.fill(x, 0, 1, 11, 21, -1, 203, 159, -1);
        String before = Probe.state(x);
        C.due("7 deeds", x.perform(0), 7);
        C.due("one call", x.count(9), 1);
        x.undo(1);
        C.same("perform undone", Probe.state(x), before);
        x.year(77, 40);
        C.due("one call", x.count(9), 1);
        x.undo(1);
        C.same("year undone", Probe.state(x), before);
        x.hours(48);
        C.due("one call", x.count(9), 1);
        x.undo(1);
        C.same("hours undone", Probe.state(x), before);
        x.write(0, 2, 50);
        C.due("those done ahead of one that can't be", x.perform(0), 2);
        x.undo(1);
        C.same("they are undone", Probe.state(x), before);
        C.sentence(12, "calls that did none can't be undone");
        x.write(0, 0, 50);
        C.due("perform that did none", x.perform(0), 0);
        x.numbers(1, 0, 0);
        C.due("perform of an empty tray", x.perform(1), 0);
        C.due("none to undo", x.undo(1), -3);
        x.act(0, 9);
        x.tell(6, 0);
        x.fog(100);
        x.hours(0);
        x.year(1, 0);
        x.undo(1);
        C.due("refused calls", x.count(9), 0);
        x.image(0);
        x.numbers(2, 2, 2);
        x.write(2, 0, 5);
        x.lists(2, 0, 3);
        x.feed(1, 2, 3, 4, 5);
        x.judge(2, 0);
        C.due("others", x.count(9), 0);
        x.act(0, 0);
        x.fog(0);
        x.tell(0, 0);
        C.due("deeds that leave all as it is", x.count(9), 3);
    }

    /** What a deed of that number answers, by the document's words, for FIVE. */
    private static int whyDeed(int v) {
        if (v == NONE || v >= 200 && v <= 209) {
            return 0;
        }
        if (v >= 0 && v <= 49) {
            int act = v % 10;
            return act > 6 ? 1 : act == 2 || act == 5 || act == 6 ? 2 : 0;
        }
        if (v >= 100 && v <= 159) {
            return v % 10 <= 3 || v % 10 == 9 ? 0 : 1;
        }
        return 1;
    }

    private static void deedNumbers() {
        C.sentence(13, "DEEDS: 0 to 49; 100 to 159; 200 to 209; NONE: an HOUR; 1 no such HOUR of the WEEK, GAP, number");
        MovedSpan x = Checks.river(FIVE);
        x.numbers(0, 1, 1);
        for (int v = -20; v <= 225; v++) {
            x.write(0, 0, v);
            C.due("why not " + v, x.judge(0, 1), whyDeed(v));
        }
        MovedSpan y = Checks.river(FIVE);
        y.numbers(0, 1, 1);
        for (int v : new int[] {0, 1, 3, 4, 41, 44, 100, 103, 109, 150, 153, 159, 200, 201, 209, -1}) {
            y.write(0, 0, v);
            C.due("perform " + v, y.perform(0), 1);
            C.due("told", v >= 0 && v < 50 ? y.person(v / 10, 5) : 0, v >= 0 && v < 50 ? v % 10 : 0);
            C.due("week", v >= 100 && v < 160 ? y.span(v / 10 - 10) : 0, v < 100 || v >= 160 ? 0 : v % 10 == 9 ? NONE : v % 10);
            C.due("fog", v >= 200 ? y.count(7) : 0, v >= 200 ? v - 200 : 0);
            C.due("hour", y.count(6), v == NONE ? 1 : 0);
            y.undo(1);
        }
        MovedSpan small = Checks.river("river 2 week 2;person at 1 east;");
        small.numbers(0, 1, 1);
        int[] numbers = {2, 1, 12, 101, 102, 109, 110, 111, 112, 118, 119, 120, 129};
        int[] whys = {0, 2, 1, 0, 1, 0, 0, 0, 1, 1, 0, 1, 1};
        for (int i = 0; i < numbers.length; i++) {
            small.write(0, 0, numbers[i]);
            C.due("why not " + numbers[i], small.judge(0, 1), whys[i]);
        }
        MovedSpan lawful = Checks.river("river 2 week 1;person at 0 west;walks:1=2;serves:fog=1;");
        Checks.fill(lawful, 0, 1);
        C.due("the law walks", lawful.judge(0, 1), 3);
        Checks.fill(lawful, 0, 3);
        C.due("the law serves", lawful.judge(0, 1), 3);
        Checks.fill(lawful, 0, 201, 3, -1, 3);
        C.due("fog is over at place 3", lawful.judge(0, 0) * 10 + lawful.judge(0, 1), 33);
    }

    private static void deedsOfNobody() {
        C.sentence(13, "1 no such PERSON, HOUR of the WEEK, GAP: a new object");
        MovedSpan x = new MovedSpan();
        x.numbers(0, 1, 1);
        for (int v = -2; v <= 212; v++) {
            x.write(0, 0, v);
            boolean can = v == -1 || v == 100 || v == 101 || v == 109 || v >= 200 && v <= 209;
            C.due("why not " + v, x.judge(0, 1), can ? 0 : 1);
        }
    }

    private static void deedsOfManyBits() {
        C.sentence(13, "numbers of 64 bits that look like deeds by their last bits");
        MovedSpan x = Checks.river(FIVE);
        x.numbers(0, 3, 1);
        long[] strange = {1L << 32, (1L << 32) - 1, (1L << 32) + 1, (1L << 32) + 100, (1L << 40) + 200, -1L << 32, Long.MIN_VALUE,
            Long.MAX_VALUE, Long.MIN_VALUE + 1, Integer.MAX_VALUE, Integer.MIN_VALUE, -(1L << 32) - 1};
        for (long v : strange) {
            x.write(0, 0, v);
            C.due("why not " + v, x.judge(0, 1), 1);
            C.due("perform " + v, x.perform(0), 0);
        }
        C.sentence(13, "numbers cut to 8 bits are other ones");
        x.numbers(0, 0, 1);
        x.write(0, 0, 200);
        C.due("-56", x.judge(0, 1), 1);
        x.write(0, 0, 159);
        C.due("-97", x.judge(0, 1), 1);
        x.write(0, 0, 255);
        C.due("NONE", x.judge(0, 3), 1);
        x.write(0, 0, 256);
        C.due("0", x.judge(0, 3), 0);
        x.write(0, 0, 127);
        C.due("127", x.judge(0, 1), 1);
        x.write(0, 0, 119);
        C.due("119", x.judge(0, 1), 0);
    }

    private static void judge() {
        C.sentence(13, "-2: the TRAY, what; -6.");
        MovedSpan x = Checks.river("river 2 week 1;person at 0 west to 1 west by 1;person at 1 west to 0 west by 2;");
        C.due("tray -1", x.judge(-1, 0), -2);
        C.due("tray 4", x.judge(4, 0), -2);
        C.due("what -1", x.judge(0, -1), -2);
        C.due("what 4", x.judge(3, 4), -2);
        for (int far : FAR) {
            C.due("judge(" + far + ", 0)", x.judge(far, 0), -2);
            C.due("judge(0, " + far + ")", x.judge(0, far), -2);
        }
        C.due("missing", x.judge(0, 0), -6);
        C.due("missing", x.judge(3, 3), -6);
        C.sentence(13, "the first place that can't be (NONE), why (0): a tray of 0 numbers");
        x.numbers(3, 0, 0);
        C.due("place", x.judge(3, 0), NONE);
        C.due("why", x.judge(3, 1), 0);
        C.due("done", x.judge(3, 2), 0);
        C.due("hour", x.judge(3, 3), 0);
        C.sentence(13, "a tray of 40 numbers");
        x.numbers(3, 0, 40);
        for (int i = 0; i < 40; i++) {
            x.write(3, i, NONE);
        }
        C.due("all can", x.judge(3, 0), NONE);
        C.due("40 hours", x.judge(3, 3), 40);
        x.write(3, 39, 7);
        C.due("the last can't", x.judge(3, 0) * 10 + x.judge(3, 1), 391);
        C.due("39 hours", x.judge(3, 3), 39);
        x.write(3, 0, 2);
        C.due("the first can't", x.judge(3, 0) * 10 + x.judge(3, 1), 2);
        C.due("no hour", x.judge(3, 3), 0);
        C.sentence(13, "whose ERRANDS are DONE then, as bits");
        Checks.fill(x, 0, 1, 12, -1);
        C.due("both", x.judge(0, 2), 3);
        Checks.fill(x, 0, 1, -1, 12, -1, 50);
        C.due("one in each hour, by hour 1 and by hour 2", x.judge(0, 2), 3);
        Checks.fill(x, 0, -1, 1, 12, -1);
        C.due("the first too late", x.judge(0, 2), 2);
        Checks.fill(x, 0, 12, -1, 50, 1, -1);
        C.due("nothing behind the first that can't be", x.judge(0, 2) * 10 + x.judge(0, 3), 21);
        C.sentence(13, "judged as if done");
        C.due("nothing is done", x.count(4) + x.count(6) + x.count(9) + x.person(0, 5), 0);
    }

    private static void perform() {
        C.sentence(14, "They are done, till one can't be: how many. -2; -6.");
        MovedSpan x = Checks.river(FIVE);
        C.due("tray -1", x.perform(-1), -2);
        C.due("tray 4", x.perform(4), -2);
        for (int far : FAR) {
            C.due("perform(" + far + ")", x.perform(far), -2);
        }
        C.due("missing", x.perform(3), -6);
        x.numbers(3, 2, 0);
        C.due("0 numbers", x.perform(3), 0);
        x.numbers(3, 2, 40);
        for (int i = 0; i < 40; i++) {
            x.write(3, i, NONE);
        }
        C.due("40 numbers", x.perform(3), 40);
        C.due("hour", x.count(6), 40);
        x.write(3, 39, 160);
        C.due("the last can't", x.perform(3), 39);
        C.due("hour", x.count(6), 79);
        x.write(3, 0, -2);
        C.due("the first can't", x.perform(3), 0);
        C.due("hour", x.count(6), 79);
        C.due("calls that did some", x.count(9), 2);
        C.due("the tray stays", x.write(3, 40, 1), -7);
        C.due("the tray stays", x.judge(3, 0), 0);
    }

    /** The same year by other calls: x's draws are worked out here. */
    private static int yearByCalls(MovedSpan x, int seed, int times) {
        int people = x.count(2);
        int draw = seed;
        int could = 0;
        for (int i = 0; i < times; i++) {
            draw = draw * 1103515245 + 12345;
            int kind = (draw >>> 16) % 4;
            if (kind == 0) {
                x.hours(1);
                could++;
            } else if (kind == 3) {
                draw = draw * 1103515245 + 12345;
                x.fog((draw >>> 16) % 3);
                could++;
            } else if (people > 0) {
                draw = draw * 1103515245 + 12345;
                int p = (draw >>> 16) % people;
                draw = draw * 1103515245 + 12345;
                could += x.act(p, (draw >>> 16) % 7) >= 0 ? 1 : 0;
            }
        }
        return could;
    }

    private static String withoutUndoing(MovedSpan x) {
        String[] all = Probe.state(x).split(" ");
        all[9] = "";
        return String.join(" ", all);
    }

    private static void sameYear(String text, int seed, int times) {
        MovedSpan x = Checks.river(text);
        MovedSpan y = Checks.river(text);
        int could = yearByCalls(y, seed, times);
        C.due("year(" + seed + ", " + times + ")", x.year(seed, times), could);
        C.same("behind year(" + seed + ", " + times + ")", withoutUndoing(x), withoutUndoing(y));
        C.due("one call, if it did some", x.count(9), could > 0 ? 1 : 0);
    }

    private static void year() {
        C.sentence(15, "-3: how many times");
        MovedSpan x = Checks.river(FIVE);
        C.due("0", x.year(1, 0), -3);
        C.due("-1", x.year(1, -1), -3);
        C.due("41", x.year(1, 41), -3);
        for (int far : FAR) {
            C.due("year(1, " + far + ")", x.year(1, far), -3);
        }
        C.due("nothing is done", x.count(6) + x.count(7) + x.count(9), 0);
        C.sentence(15, "A YEAR by a SEED (x, an int): so many times (1 to 40)");
        String moving = "river 4 week 3;span 0 at 1;span 1 at 2;span 2 rest;hour 5;person at 1 west to 2 east by 20;person at 2 east;"
            + "person at 1 east load 4;serves:not[load>3 and fog=1];walks:gap+hour>1 or side=0;";
        for (int seed : new int[] {0, 1, -1, 2, 12345, 1 << 16, 1 << 31, Integer.MAX_VALUE, Integer.MIN_VALUE + 1, -12345}) {
            for (int times : new int[] {1, 2, 3, 17, 39, 40}) {
                sameYear(moving, seed, times);
                sameYear(FIVE, seed, times);
                sameYear("river 2 week 1;person at 1 east to 0 west by 9;", seed, times);
            }
        }
        C.sentence(15, "without sign: x >>> 16 is never below 0");
        for (int seed = -60; seed < 60; seed++) {
            sameYear(moving, seed * 0x1234567, 4);
        }
        C.sentence(15, "a call that could do none can't be undone");
        int none = 0;
        for (int seed = 0; seed < 200; seed++) {
            MovedSpan y = Checks.river("river 2 week 1;person at 1 east;walks:1=2;");
            if (y.year(seed, 1) == 0) {
                none++;
                C.due("undo", y.undo(1), -3);
            }
        }
        C.holds("there are such", none > 10);
    }

    private static void yearWithoutPeople() {
        C.sentence(15, "without PEOPLE 1 and 2 are nothing, and no more DRAWS");
        for (int seed = -40; seed < 40; seed++) {
            MovedSpan x = new MovedSpan();
            MovedSpan y = new MovedSpan();
            int could = yearByCalls(y, seed, 40);
            C.due("year(" + seed + ", 40)", x.year(seed, 40), could);
            C.same("behind it", withoutUndoing(x), withoutUndoing(y));
            MovedSpan one = new MovedSpan();
            int draw = seed * 1103515245 + 12345;
            int kind = (draw >>> 16) % 4;
            C.due("once", one.year(seed, 1), kind == 0 || kind == 3 ? 1 : 0);
            C.due("undoing", one.count(9), kind == 0 || kind == 3 ? 1 : 0);
        }
    }
}
