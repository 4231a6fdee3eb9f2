import java.util.function.Consumer;
import java.util.function.Supplier;
import java.util.function.ToLongFunction;

/**
 * "Refused calls answer by a code and change nothing." Each is made on an object that has some of all there can be,
 * and all that can be seen of it then is held against the same object without the call. Calls that only ask, likewise.
 */
public final class RefusedTest {
    private static final Checks C = new Checks();
    private static final int NONE = MovedSpan.NONE;
    private static final int LOW = Integer.MIN_VALUE;
    private static final int HIGH = Integer.MAX_VALUE;

    /** Three gaps, four hours, three people; person 1 has no errand. */
    private static final String TEXT = "river 3 week 4;span 0 at 1;span 1 at 0;span 2 rest;span 3 at 2;foggy 3;hour 2;"
        + "person at 0 west load 7 to 2 east by 20;person at 1 east;person at 2 west to 2 west by 9;"
        + "walks:not[who=1 and hour=0];serves:fog=0 or load>5;";

    private static String unchanged = "";

    public static void main(String[] args) {
        unchanged = Probe.all(RefusedTest::full);
        river();
        deeds();
        toCome();
        errandsAndWeeks();
        seen();
        chances();
        trays();
        images();
        inOtherStates();
        several();
        asking();
        C.end("RefusedTest");
    }

    /** Trays 0 to 2 have deeds, spots seen, and 13 numbers; tray 3 is missing, as is image 1. Five calls can be undone. */
    private static MovedSpan full() {
        MovedSpan x = Checks.river("river 2 week 1;hour 3;person at 1 west;");
        x.fog(4);
        x.image(0);
        Checks.tell(x, TEXT);
        x.act(0, 1);
        x.fog(5);
        x.tell(2, 1);
        x.hours(2);
        x.act(1, 0);
        Checks.tell(x, "river 2 week 1;hour 7;river");
        Checks.feed(x, "river 2 week 3;hour 9");
        x.numbers(0, 0, 5);
        int[] deeds = {1, NONE, 109, 11, 112};
        for (int i = 0; i < 5; i++) {
            x.write(0, i, deeds[i]);
        }
        x.numbers(1, 1, 3);
        x.write(1, 0, 2);
        x.write(1, 1, NONE);
        x.write(1, 2, 3);
        x.numbers(2, 3, 13);
        x.write(2, 5, 1L << 40);
        return x;
    }

    private static void changesNothing(String name, Supplier<MovedSpan> made, String before, Consumer<MovedSpan> call) {
        C.same("behind " + name, Probe.all(() -> {
            MovedSpan x = made.get();
            call.accept(x);
            return x;
        }), before);
    }

    private static void refused(String name, long code, ToLongFunction<MovedSpan> call) {
        C.due(name, call.applyAsLong(full()), code);
        changesNothing(name, RefusedTest::full, unchanged, call::applyAsLong);
    }

    private static void river() {
        C.sentence(3, "-3: n is below 0 or above what there is (THE TAPE stays)");
        refused("river(-1)", -3, x -> x.river(-1));
        refused("river(41)", -3, x -> x.river(41));
        refused("river(LOW)", -3, x -> x.river(LOW));
        refused("river(HIGH)", -3, x -> x.river(HIGH));
        C.sentence(5, "-3");
        refused("span(-1)", -3, x -> x.span(-1));
        refused("span(1000)", -3, x -> x.span(1000));
        C.sentence(6, "-2");
        refused("person(-1, 0)", -2, x -> x.person(-1, 0));
        refused("person(3, 0)", -2, x -> x.person(3, 0));
        refused("person(0, -1)", -2, x -> x.person(0, -1));
        refused("person(0, 6)", -2, x -> x.person(0, 6));
        C.sentence(7, "Why an ACT can't be");
        refused("why(3, 0)", 1, x -> x.why(3, 0));
        refused("why(0, 7)", 1, x -> x.why(0, 7));
        refused("why(0, 5)", 2, x -> x.why(0, 5));
        refused("why(1, 1)", 3, x -> x.why(1, 1));
        C.sentence(4, "NONE for others");
        refused("fault(2)", NONE, x -> x.fault(2));
        C.sentence(40, "NONE for others");
        refused("count(12)", NONE, x -> x.count(12));
    }

    private static void deeds() {
        C.sentence(8, "-11 to -13");
        refused("act(-1, 0)", -11, x -> x.act(-1, 0));
        refused("act(3, 0)", -11, x -> x.act(3, 0));
        refused("act(0, -1)", -11, x -> x.act(0, -1));
        refused("act(0, 7)", -11, x -> x.act(0, 7));
        refused("act(2, 1)", -12, x -> x.act(2, 1));
        refused("act(0, 6)", -12, x -> x.act(0, 6));
        refused("act(1, 1)", -13, x -> x.act(1, 1));
        refused("act(1, 3)", -13, x -> x.act(1, 3));
        C.sentence(9, "-2: no such HOUR, GAP");
        refused("tell(-1, 0)", -2, x -> x.tell(-1, 0));
        refused("tell(4, 0)", -2, x -> x.tell(4, 0));
        refused("tell(0, -2)", -2, x -> x.tell(0, -2));
        refused("tell(0, 3)", -2, x -> x.tell(0, 3));
        C.sentence(10, "-3");
        refused("fog(-1)", -3, x -> x.fog(-1));
        refused("fog(100)", -3, x -> x.fog(100));
        C.sentence(11, "-3");
        refused("hours(0)", -3, x -> x.hours(0));
        refused("hours(49)", -3, x -> x.hours(49));
        refused("hours(LOW)", -3, x -> x.hours(LOW));
        C.sentence(12, "-3: n, more than can be");
        refused("undo(0)", -3, x -> x.undo(0));
        refused("undo(-1)", -3, x -> x.undo(-1));
        refused("undo(6), 5 can be", -3, x -> x.undo(6));
        refused("undo(11)", -3, x -> x.undo(11));
        refused("undo(LOW)", -3, x -> x.undo(LOW));
        C.sentence(13, "-2: the TRAY, what; -6");
        refused("judge(-1, 0)", -2, x -> x.judge(-1, 0));
        refused("judge(4, 0)", -2, x -> x.judge(4, 0));
        refused("judge(0, -1)", -2, x -> x.judge(0, -1));
        refused("judge(0, 4)", -2, x -> x.judge(0, 4));
        refused("judge(3, 0)", -6, x -> x.judge(3, 0));
        C.sentence(14, "-2; -6");
        refused("perform(-1)", -2, x -> x.perform(-1));
        refused("perform(4)", -2, x -> x.perform(4));
        refused("perform(3)", -6, x -> x.perform(3));
        C.sentence(15, "-3: how many times");
        refused("year(1, 0)", -3, x -> x.year(1, 0));
        refused("year(1, 41)", -3, x -> x.year(1, 41));
        refused("year(1, LOW)", -3, x -> x.year(1, LOW));
    }

    private static void toCome() {
        C.sentence(16, "-2");
        refused("soonest(-1, 0)", -2, x -> x.soonest(-1, 0));
        refused("soonest(3, 0)", -2, x -> x.soonest(3, 0));
        refused("soonest(0, -1)", -2, x -> x.soonest(0, -1));
        refused("soonest(0, 6)", -2, x -> x.soonest(0, 6));
        refused("soonest(0, 9)", -2, x -> x.soonest(0, 9));
        C.sentence(17, "-2; -3: i is below 0");
        refused("way(3, 0, 0)", -2, x -> x.way(3, 0, 0));
        refused("way(0, 7, 0)", -2, x -> x.way(0, 7, 0));
        refused("way(0, 3, -1)", -3, x -> x.way(0, 3, -1));
        C.sentence(18, "-2; -3");
        refused("ways(-1, 0, 0)", -2, x -> x.ways(-1, 0, 0));
        refused("ways(0, 6, 0)", -2, x -> x.ways(0, 6, 0));
        refused("ways(0, 3, -1)", -3, x -> x.ways(0, 3, -1));
        refused("ways(0, 3, 13)", -3, x -> x.ways(0, 3, 13));
        C.sentence(19, "-2; -3");
        refused("reach(3, 0)", -2, x -> x.reach(3, 0));
        refused("reach(0, -1)", -3, x -> x.reach(0, -1));
        refused("reach(0, 61)", -3, x -> x.reach(0, 61));
        C.sentence(20, "-2: a PERSON, both one");
        refused("meet(0, 3)", -2, x -> x.meet(0, 3));
        refused("meet(-1, 0)", -2, x -> x.meet(-1, 0));
        refused("meet(1, 1)", -2, x -> x.meet(1, 1));
        C.sentence(21, "-2 likewise");
        refused("meetAt(3, 0)", -2, x -> x.meetAt(3, 0));
        refused("meetAt(0, -1)", -2, x -> x.meetAt(0, -1));
        refused("meetAt(2, 2)", -2, x -> x.meetAt(2, 2));
    }

    private static void errandsAndWeeks() {
        C.sentence(23, "-2; -5: it has none");
        refused("spare(-1)", -2, x -> x.spare(-1));
        refused("spare(3)", -2, x -> x.spare(3));
        refused("spare(1)", -5, x -> x.spare(1));
        C.sentence(24, "-2; -5: it has none");
        refused("needs(-1)", -2, x -> x.needs(-1));
        refused("needs(3)", -2, x -> x.needs(3));
        refused("needs(1)", -5, x -> x.needs(1));
        C.sentence(26, "-2: what (10 and an HOUR of the WEEK)");
        refused("best(-1)", -2, x -> x.best(-1));
        refused("best(2)", -2, x -> x.best(2));
        refused("best(9)", -2, x -> x.best(9));
        refused("best(14)", -2, x -> x.best(14));
        refused("best(LOW)", -2, x -> x.best(LOW));
    }

    private static void seen() {
        C.sentence(30, "-2: the TRAY, the PERSON, the HOUR; -6; -4: not 1 to 12 numbers; -3: one is no SPOT, nor NONE");
        refused("fits(-1, 0, 0)", -2, x -> x.fits(-1, 0, 0));
        refused("fits(4, 0, 0)", -2, x -> x.fits(4, 0, 0));
        refused("fits(1, 3, 0)", -2, x -> x.fits(1, 3, 0));
        refused("fits(1, 0, -1)", -2, x -> x.fits(1, 0, -1));
        refused("fits(1, 0, 4)", -2, x -> x.fits(1, 0, 4));
        refused("fits(3, 0, 0)", -6, x -> x.fits(3, 0, 0));
        refused("fits(2, 0, 0)", -4, x -> x.fits(2, 0, 0));
        refused("fits(0, 0, 0)", -3, x -> x.fits(0, 0, 0));
        C.sentence(31, "else as fits()");
        refused("surest(4, 0)", -2, x -> x.surest(4, 0));
        refused("surest(1, -1)", -2, x -> x.surest(1, -1));
        refused("surest(3, 0)", -6, x -> x.surest(3, 0));
        refused("surest(2, 0)", -4, x -> x.surest(2, 0));
        refused("surest(0, 0)", -3, x -> x.surest(0, 0));
        C.sentence(32, "else as fits()");
        refused("odd(-1, 0)", -2, x -> x.odd(-1, 0));
        refused("odd(1, 3)", -2, x -> x.odd(1, 3));
        refused("odd(3, 0)", -6, x -> x.odd(3, 0));
        refused("odd(2, 0)", -4, x -> x.odd(2, 0));
        refused("odd(0, 0)", -3, x -> x.odd(0, 0));
    }

    private static void chances() {
        C.sentence(33, "-2: the PERSON, the SPOT, what; -3: n");
        refused("chance(3, 0, 0, 0)", -2, x -> x.chance(3, 0, 0, 0));
        refused("chance(0, 6, 0, 0)", -2, x -> x.chance(0, 6, 0, 0));
        refused("chance(0, 0, 0, 2)", -2, x -> x.chance(0, 0, 0, 2));
        refused("chance(0, 0, 0, -1)", -2, x -> x.chance(0, 0, 0, -1));
        refused("chance(0, 3, -1, 0)", -3, x -> x.chance(0, 3, -1, 0));
        refused("chance(0, 3, 10, 1)", -3, x -> x.chance(0, 3, 10, 1));
        C.sentence(34, "-2; -3");
        refused("likely(-1, 0, 0)", -2, x -> x.likely(-1, 0, 0));
        refused("likely(0, 7, 0)", -2, x -> x.likely(0, 7, 0));
        refused("likely(0, 3, -1)", -3, x -> x.likely(0, 3, -1));
        refused("likely(0, 3, 101)", -3, x -> x.likely(0, 3, 101));
    }

    private static void trays() {
        C.sentence(35, "-2: no such TRAY, sort; -3, and the TRAY stays: n is below 0 or above 40");
        refused("numbers(-1, 0, 1)", -2, x -> x.numbers(-1, 0, 1));
        refused("numbers(4, 0, 1)", -2, x -> x.numbers(4, 0, 1));
        refused("numbers(0, -1, 1)", -2, x -> x.numbers(0, -1, 1));
        refused("numbers(0, 4, 1)", -2, x -> x.numbers(0, 4, 1));
        refused("numbers(0, 0, -1)", -3, x -> x.numbers(0, 0, -1));
        refused("numbers(0, 2, 41)", -3, x -> x.numbers(0, 2, 41));
        refused("numbers(3, 2, 41)", -3, x -> x.numbers(3, 2, 41));
        C.sentence(36, "-2: no such TRAY; -6; -7");
        refused("write(-1, 0, 9)", -2, x -> x.write(-1, 0, 9));
        refused("write(4, 0, 9)", -2, x -> x.write(4, 0, 9));
        refused("write(3, 0, 9)", -6, x -> x.write(3, 0, 9));
        refused("write(0, -1, 9)", -7, x -> x.write(0, -1, 9));
        refused("write(0, 5, 9)", -7, x -> x.write(0, 5, 9));
        C.sentence(37, "-2: the TRAY, the PERSON, the SPOT; -6; -5: there is no way");
        refused("lists(-1, 0, 3)", -2, x -> x.lists(-1, 0, 3));
        refused("lists(4, 0, 3)", -2, x -> x.lists(4, 0, 3));
        refused("lists(0, 3, 3)", -2, x -> x.lists(0, 3, 3));
        refused("lists(0, 0, 6)", -2, x -> x.lists(0, 0, 6));
        refused("lists(3, 0, 3)", -6, x -> x.lists(3, 0, 3));
    }

    private static void images() {
        C.sentence(38, "-2");
        refused("image(-1)", -2, x -> x.image(-1));
        refused("image(2)", -2, x -> x.image(2));
        C.sentence(39, "-2; -5: none was made");
        refused("restore(-1)", -2, x -> x.restore(-1));
        refused("restore(2)", -2, x -> x.restore(2));
        refused("restore(1)", -5, x -> x.restore(1));
    }

    /** A full tape, ten calls to undo, no way, nothing told: refusals that the full object can't show. */
    private static void inOtherStates() {
        C.sentence(2, "-5: it would have more than 900");
        Supplier<MovedSpan> tape = () -> {
            MovedSpan x = Checks.river(TEXT);
            Checks.feed(x, "river 2 week 1;" + "hour 7;".repeat(126));
            return x;
        };
        C.due("feed", tape.get().feed(0x23232323, 1, 2, 3, 4), -5);
        changesNothing("feed", tape, Probe.all(tape), x -> x.feed(0x23232323, 1, 2, 3, 4));
        C.sentence(12, "-3: more than can be");
        Supplier<MovedSpan> busy = () -> {
            MovedSpan x = Checks.river("river 2 week 1;person at 0 west;");
            for (int i = 0; i < 13; i++) {
                x.fog(i);
            }
            return x;
        };
        String before = Probe.all(busy);
        C.due("undo(11)", busy.get().undo(11), -3);
        changesNothing("undo(11)", busy, before, x -> x.undo(11));
        changesNothing("fog(100), the eldest not forgotten", busy, before, x -> x.fog(100));
        changesNothing("act(0, 9), the eldest not forgotten", busy, before, x -> x.act(0, 9));
        C.sentence(37, "-5: there is no way");
        Supplier<MovedSpan> stuck = () -> {
            MovedSpan x = Checks.river("river 2 week 1;person at 0 west;walks:1=2;");
            Checks.fill(x, 2, 3, NONE, 3);
            return x;
        };
        C.due("lists", stuck.get().lists(2, 0, 2), -5);
        changesNothing("lists", stuck, Probe.all(stuck), x -> x.lists(2, 0, 2));
        C.sentence(3, "all stays with a FAULT; -30 less the FAULT");
        String[] faulty = {"river 2 week 1;#", "river 2 week 1;hour", "river 2 week 1;hour 7;span 9 rest;", "river 4 week 1;" + "person at 0 west;".repeat(6)};
        for (int kind = 1; kind <= 4; kind++) {
            String text = faulty[kind - 1];
            MovedSpan x = Checks.river(TEXT);
            x.fog(3);
            x.act(0, 1);
            String state = Probe.state(x);
            C.due("river of " + text, Checks.tell(x, text), -30 - kind);
            C.same("all stays behind " + text, Probe.state(x), state);
        }
        Supplier<MovedSpan> fresh = MovedSpan::new;
        String first = Probe.all(fresh);
        changesNothing("undo(1) of a new object", fresh, first, x -> x.undo(1));
        changesNothing("restore(0) of a new object", fresh, first, x -> x.restore(0));
        changesNothing("river(1) of a new object", fresh, first, x -> x.river(1));
        changesNothing("perform(0) of a new object", fresh, first, x -> x.perform(0));
    }

    private static void several() {
        C.topic("Of several that which the call tells first; all these ahead of NONE");
        refused("judge(4, 4)", -2, x -> x.judge(4, 4));
        refused("judge(3, 4)", -2, x -> x.judge(3, 4));
        refused("way(3, 0, -1)", -2, x -> x.way(3, 0, -1));
        refused("ways(0, 6, 13)", -2, x -> x.ways(0, 6, 13));
        refused("reach(3, 61)", -2, x -> x.reach(3, 61));
        refused("fits(3, 3, 0)", -2, x -> x.fits(3, 3, 0));
        refused("fits(3, 0, 4)", -2, x -> x.fits(3, 0, 4));
        refused("fits(2, 0, 4)", -2, x -> x.fits(2, 0, 4));
        refused("surest(3, 3)", -2, x -> x.surest(3, 3));
        refused("odd(3, 3)", -2, x -> x.odd(3, 3));
        refused("chance(3, 0, 10, 0)", -2, x -> x.chance(3, 0, 10, 0));
        refused("chance(0, 0, 10, 2)", -2, x -> x.chance(0, 0, 10, 2));
        refused("likely(0, 6, 101)", -2, x -> x.likely(0, 6, 101));
        refused("numbers(4, 4, 41)", -2, x -> x.numbers(4, 4, 41));
        refused("numbers(0, 4, 41)", -2, x -> x.numbers(0, 4, 41));
        refused("write(4, 99, 0)", -2, x -> x.write(4, 99, 0));
        refused("write(3, 99, 0)", -6, x -> x.write(3, 99, 0));
        refused("lists(3, 3, 0)", -2, x -> x.lists(3, 3, 0));
        refused("act(3, 7)", -11, x -> x.act(3, 7));
        refused("way(1, 3, -1), it is there", -3, x -> x.way(1, 3, -1));
    }

    private static void asks(String name, ToLongFunction<MovedSpan> call) {
        C.holds(name + " is answered", call.applyAsLong(full()) >= NONE);
        changesNothing(name, RefusedTest::full, unchanged, call::applyAsLong);
    }

    private static void asking() {
        C.topic("calls that ask change nothing");
        asks("fault", x -> x.fault(0) + x.fault(1));
        asks("span", x -> x.span(999));
        asks("person", x -> x.person(2, 4));
        asks("why", x -> x.why(0, 3));
        for (int what = 0; what < 4; what++) {
            int w = what;
            asks("judge", x -> x.judge(0, w));
            asks("judge", x -> x.judge(2, w));
        }
        asks("soonest", x -> x.soonest(0, 5));
        asks("way", x -> x.way(0, 5, 1));
        asks("ways", x -> x.ways(0, 8, 12));
        asks("reach", x -> x.reach(1, 60));
        asks("meet", x -> x.meet(0, 1));
        asks("meetAt", x -> x.meetAt(0, 1));
        asks("inTime", MovedSpan::inTime);
        asks("spare", x -> x.spare(0));
        asks("needs", x -> x.needs(0));
        asks("moves", MovedSpan::moves);
        asks("best(0)", x -> x.best(0));
        asks("best(13)", x -> x.best(13));
        asks("change", MovedSpan::change);
        asks("weeks", MovedSpan::weeks);
        asks("shift", MovedSpan::shift);
        asks("fits", x -> x.fits(1, 0, 3));
        asks("surest", x -> x.surest(1, 0));
        asks("odd", x -> x.odd(1, 0));
        asks("chance", x -> x.chance(0, 5, 9, 1));
        asks("likely", x -> x.likely(0, 5, 99));
        asks("count", x -> x.count(5));
    }
}
