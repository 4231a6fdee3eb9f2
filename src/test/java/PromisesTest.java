/** Each promise of the document by calls whose answers were worked out by hand. */
public final class PromisesTest {
    private static final Checks C = new Checks();
    private static final int NONE = MovedSpan.NONE;

    /**
     * From hour 10 on the span lies at gap 1 in even hours and rests in odd ones. Person 0 goes from 0 west to
     * 1 east, person 1 is at 2 east.
     */
    private static final String EVEN = "river 3 week 2;span 0 at 1;span 1 rest;"
        + "person at 0 west load 7 to 1 east by 14;person at 2 east;foggy 3;hour 10;";

    public static void main(String[] args) {
        newObject();
        feed();
        river();
        fault();
        lawsOfTexts();
        span();
        person();
        why();
        laws();
        act();
        tell();
        fog();
        hours();
        undo();
        judge();
        perform();
        year();
        soonest();
        way();
        ways();
        reach();
        meet();
        inTime();
        spare();
        needs();
        moves();
        best();
        change();
        weeks();
        shift();
        fits();
        surest();
        odd();
        chance();
        likely();
        numbers();
        write();
        lists();
        images();
        count();
        C.end("PromisesTest");
    }

    private static void newObject() {
        C.topic("promise 1");
        MovedSpan x = new MovedSpan();
        int[] counts = {2, 1, 0, 0, 0, 0, 0, 0, 0, 0, 0, 0};
        for (int i = 0; i < counts.length; i++) {
            C.due("count(" + i + ")", x.count(i), counts[i]);
        }
        C.due("span", x.span(0), 0);
        C.due("fault(0)", x.fault(0), 0);
        C.due("fault(1)", x.fault(1), NONE);
        C.due("judge, all trays missing", x.judge(3, 0), -6);
        C.due("NONE", MovedSpan.NONE, -1);
    }

    private static void feed() {
        C.topic("promise 2");
        MovedSpan x = new MovedSpan();
        for (int i = 1; i <= 45; i++) {
            C.due("feed", x.feed(1, 2, 3, 4, 5), 20 * i);
        }
        C.due("feed above 900", x.feed(1, 2, 3, 4, 5), -5);
        C.due("tape", x.count(10), 900);
        MovedSpan y = new MovedSpan();
        y.feed(0x72697665, 0x72203220, 0x7765656b, 0x20313b20, 0xff000000);
        C.due("the highest byte comes first", y.river(15), 1);
        y.feed(0x72697665, 0x72203220, 0x7765656b, 0x20313b20, 0xff000000);
        C.due("a byte above 127", y.river(17), -31);
        C.due("its place", y.fault(1), 16);
    }

    private static void river() {
        C.topic("promise 3");
        MovedSpan x = new MovedSpan();
        C.due("lines", Checks.tell(x, EVEN), 7);
        C.due("tape is empty", x.count(10), 0);
        Checks.feed(x, "river 2 week 1;");
        C.due("n below 0", x.river(-1), -3);
        C.due("n above the tape", x.river(21), -3);
        C.due("tape stays", x.count(10), 20);
        C.due("lines stay", x.count(11), 7);
        x.fog(4);
        x.act(0, 1);
        C.due("with a fault", x.river(14), -32);
        C.due("tape is empty with a fault, too", x.count(10), 0);
        C.due("all stays with a fault", x.count(0) * 100 + x.count(7) * 10 + x.count(9), 342);
        C.due("told stays with a fault", x.person(0, 5), 1);
        C.due("anew", Checks.tell(x, "river 2 week 1;person at 1 east;"), 2);
        C.due("no fog", x.count(7), 0);
        C.due("nothing told", x.person(0, 5), 0);
        C.due("nothing can be undone", x.undo(1), -3);
        C.due("hour", x.count(6), 0);
        C.due("no text", x.river(0), -32);
        C.due("later lines strike", Checks.tell(x, "river 2 week 2;span 1 at 1;span 1 rest;span 1 at 1;foggy 2;foggy 10;"
            + "hour 3;hour 999;person at 0west load 1 load 99 to 0 east by 1 to 1 west by 999;"
            + "walks:1=1;walks:1=2;serves:1=2;serves:1=1;"), 13);
        C.due("span", x.span(0), 1);
        C.due("foggy", x.count(8), 10);
        C.due("hour", x.count(6), 999);
        C.due("load", x.person(0, 1), 99);
        C.due("errand", x.person(0, 2), 2);
        C.due("by", x.person(0, 3), 999);
        C.due("walks", x.why(0, 1), 3);
        x.hours(1);
        C.due("serves", x.why(0, 3), 0);
        Checks.feed(x, "river 2 week 2222;hours");
        C.due("digits that the text hasn't", x.river(14), -32);
        C.due("the end", x.fault(1), 14);
        Checks.feed(x, "river 2 week 1;hourly");
        C.due("letters that the text hasn't", x.river(19), -32);
        C.due("the end", x.fault(1), 19);
        C.due("blanks and none", Checks.tell(x, "\n river\n2week 1 ;  hour\n7;person at 1west to 0east by 7load 3 ; "), 3);
        C.due("an errand done at the first hour", Checks.tell(x, "river 2 week 1;person at 1 west to 1 west by 7;hour 7;"), 3);
        C.due("it is done", x.count(4), 1);
        C.due("too late at the first hour", Checks.tell(x, "river 2 week 1;person at 1 west to 1 west by 6;hour 7;"), 3);
        C.due("it isn't done", x.count(4), 0);
    }

    private static void faultIs(String text, int kind, int place) {
        MovedSpan x = new MovedSpan();
        C.due("river of " + text, Checks.tell(x, text), -30 - kind);
        C.due("fault of " + text, x.fault(0), kind);
        C.due("place in " + text, x.fault(1), place);
    }

    private static void fault() {
        C.topic("promise 4");
        faultIs("", 2, 0);
        faultIs("  ", 2, 2);
        faultIs("River 2 week 1;", 1, 0);
        faultIs("river2week1;;", 2, 12);
        faultIs("river 2 week 1", 2, 14);
        faultIs("river 2 week 1 ", 2, 15);
        faultIs("river 1 week 1;", 3, 6);
        faultIs("river 5 week 1;", 3, 6);
        faultIs("river 2 week 0;", 3, 13);
        faultIs("river 2 week 7;", 3, 13);
        faultIs("river 2222 week 7;", 1, 6);
        faultIs("river 222 week 7;", 3, 6);
        faultIs("week 2 week 7;", 2, 0);
        faultIs("river 2 week 1;river 2 week 1;", 2, 15);
        faultIs("river 2 week 1;span 1 rest;", 3, 20);
        faultIs("river 2 week 1;span 0 at 2;", 3, 25);
        faultIs("river 2 week 1;span 0 lies;", 2, 22);
        faultIs("river 2 week 1;person at 2 west;", 3, 25);
        faultIs("river 2 week 1;person at 0 north;", 2, 27);
        faultIs("river 2 week 1;person at 0 west load 100;", 3, 37);
        faultIs("river 2 week 1;person at 0 west to 2 west by 1;", 3, 35);
        faultIs("river 2 week 1;person at 0 west to 1 west;", 2, 41);
        faultIs("river 2 week 1;foggy 11;", 3, 21);
        faultIs("river 2 week 1;hour 1\t;", 1, 21);
        faultIs("river 2 week 1;hour 0001;", 1, 20);
        faultIs("river 2 week 1;,", 1, 15);
        String five = "river 2 week 1;" + "person at 0 west;".repeat(5);
        C.due("five people", Checks.river(five).count(2), 5);
        faultIs(five + "person at 9", 4, 100);
        faultIs(five + "walks person", 2, 106);
        MovedSpan x = new MovedSpan();
        Checks.tell(x, "river");
        x.river(1);
        C.due("a river that wasn't read", x.fault(0) * 10 + x.fault(1), 25);
        Checks.tell(x, "river 2 week 1;");
        C.due("none", x.fault(0), 0);
        C.due("no place", x.fault(1), NONE);
        C.due("others", x.fault(2) + x.fault(-1), -2);
    }

    private static void lawsOfTexts() {
        C.topic("promise 4, laws");
        String walks = "river 2 week 1;walks:";
        faultIs(walks + "1", 2, 22);
        faultIs(walks + "1;", 2, 22);
        faultIs(walks + "1=1=1;", 2, 24);
        faultIs(walks + "1=1 gap;", 2, 25);
        faultIs(walks + "[1=1;", 2, 25);
        faultIs(walks + "[1];", 2, 23);
        faultIs(walks + "(1=1);", 2, 23);
        faultIs(walks + "(1)]=1;", 2, 24);
        faultIs(walks + "1=[1=1];", 2, 23);
        faultIs(walks + "1=not 1=1;", 2, 23);
        faultIs(walks + "-1=1;", 2, 21);
        faultIs(walks + "1=1 or;", 2, 27);
        faultIs(walks + "1=1 and and 1=1;", 2, 29);
        faultIs(walks + "west=1;", 2, 21);
        faultIs("river 2 week 1;serves:side=1;", 2, 22);
        faultIs("river 2 week 1;serves 1=1;", 2, 22);
        faultIs(walks + "((((((( 1", 4, 27);
        faultIs(walks + "[[[[[[[ 1", 4, 27);
        faultIs(walks + "not[not[not[not 1=1", 4, 33);
        faultIs(walks + "((((((1))))))=not", 2, 35);
        faultIs(walks + "[[[[[[1=not", 2, 29);
        C.due("six within one another", Checks.tell(new MovedSpan(), walks + "not[not[((1)) = 1]];"), 2);
        C.due("six in serves", Checks.tell(new MovedSpan(), "river 2 week 1;serves:[[[[[[1=1]]]]]];"), 2);
        faultIs("river 2 week 1;serves:[[[[[[[1=1", 4, 28);
        C.due("six, then six", Checks.tell(new MovedSpan(), walks + "((((((1))))))=((((((1)))))) or [[[[[not 1=1]]]]];"), 2);
        lawIs("2+3*4=14", true);
        lawIs("10-3-2=5", true);
        lawIs("(10-3)*2=14", true);
        lawIs("10-(3-2)=9", true);
        lawIs("2<2", false);
        lawIs("1<2", true);
        lawIs("2>2", false);
        lawIs("3>2", true);
        lawIs("007=7", true);
        lawIs("1=1 or 1=1 and 1=2", true);
        lawIs("[1=1 or 1=1] and 1=2", false);
        lawIs("not 1=2 and 1=2", false);
        lawIs("not [1=2 and 1=2]", true);
        lawIs("not not 1=1", true);
        lawIs("999*999*999=999*999*998", true);
        lawIs("999*999*999-999*999=999+999+1", true);
        lawIs("0-999*999-999*999=0-999*999-2*999-3", true);
        lawIs("0-999*999*999=0-999*999-2*999-1", true);
        lawIs("(0-999)*999*999+999*999=0-2*999-1", true);
        lawIs("(0-999)*(0-999)=999*999", true);
    }

    private static void lawIs(String law, boolean holds) {
        MovedSpan x = Checks.river("river 2 week 1;person at 0 west;walks:" + law + ";");
        C.due(law, x.why(0, 1), holds ? 0 : 3);
    }

    private static void span() {
        C.topic("promise 5");
        MovedSpan x = Checks.river(EVEN);
        C.due("span(0)", x.span(0), 1);
        C.due("span(1)", x.span(1), NONE);
        C.due("span(998)", x.span(998), 1);
        C.due("span(999)", x.span(999), NONE);
        C.due("span(1000)", x.span(1000), -3);
        C.due("span(-1)", x.span(-1), -3);
        x.hours(1);
        C.due("an hour later", x.span(0), NONE);
    }

    private static void person() {
        C.topic("promise 6");
        MovedSpan x = Checks.river(EVEN);
        int[] first = {0, 7, 3, 14, 0, 0};
        int[] second = {5, 0, NONE, NONE, 0, 0};
        for (int i = 0; i < 6; i++) {
            C.due("person(0, " + i + ")", x.person(0, i), first[i]);
            C.due("person(1, " + i + ")", x.person(1, i), second[i]);
        }
        C.due("what 6", x.person(0, 6), -2);
        C.due("what -1", x.person(0, -1), -2);
        C.due("no such", x.person(2, 0), -2);
        C.due("no such", x.person(-1, 0), -2);
    }

    private static void why() {
        C.topic("promise 7");
        MovedSpan x = Checks.river(EVEN);
        C.due("no such person", x.why(2, 0), 1);
        C.due("no such person", x.why(-1, 0), 1);
        C.due("no such act", x.why(0, 7), 1);
        C.due("no such act", x.why(0, -1), 1);
        int[] first = {0, 0, 2, 2, 2, 2, 2};
        int[] second = {0, 2, 0, 2, 2, 2, 2};
        for (int a = 0; a < 7; a++) {
            C.due("why(0, " + a + ")", x.why(0, a), first[a]);
            C.due("why(1, " + a + ")", x.why(1, a), second[a]);
        }
        x.act(1, 2);
        x.hours(2);
        int[] atSpan = {0, 0, 0, 0, 0, 2, 2};
        int[] inFog = {0, 0, 0, 3, 3, 2, 2};
        for (int a = 0; a < 7; a++) {
            C.due("at the span, " + a, x.why(1, a), atSpan[a]);
        }
        x.fog(1);
        for (int a = 0; a < 7; a++) {
            C.due("in fog, " + a, x.why(1, a), inFog[a]);
        }
        x.fog(0);
        x.act(1, 4);
        x.hours(1);
        int[] onResting = {0, 2, 2, 2, 2, 2, 2};
        for (int a = 0; a < 7; a++) {
            C.due("on it, while it rests, " + a, x.why(1, a), onResting[a]);
        }
        x.hours(1);
        int[] onLying = {0, 2, 2, 2, 2, 0, 0};
        for (int a = 0; a < 7; a++) {
            C.due("on it, while it lies, " + a, x.why(1, a), onLying[a]);
        }
        x.fog(1);
        C.due("on it in fog", x.why(1, 5), 3);
        C.due("on it in fog", x.why(1, 3), 2);
    }

    private static void laws() {
        C.topic("promise 7, laws");
        MovedSpan x = Checks.river("river 2 week 3;walks:side=1 and hour>0 or who=1;serves:not load>5 and [gap=hour or fog=1];"
            + "person at 0 east load 6;person at 1 west load 5;span 1 at 1;span 2 rest;hour 3;");
        C.due("walks, hour 0", x.why(0, 1), 3);
        C.due("walks, who 1", x.why(1, 2), 0);
        C.due("no next gap", x.why(1, 1), 2);
        C.due("serves, load 6", x.why(0, 3), 3);
        C.due("elsewhere", x.why(1, 3), 2);
        x.hours(1);
        C.due("walks, hour 1", x.why(0, 1), 0);
        C.due("serves, gap 1 in hour 1", x.why(1, 3), 0);
        C.due("on", x.act(1, 4), 8);
        x.hours(1);
        C.due("resting", x.why(1, 5), 2);
        x.hours(1);
        C.due("off, gap 0 of the span in hour 0", x.act(1, 5), 0);
        C.due("off to the east", x.act(1, 6), 1);
        x.tell(0, 1);
        C.due("off, gap 1 of the span in hour 0", x.why(1, 6), 3);
        x.fog(1);
        C.due("in fog", x.why(1, 6), 0);
        C.due("told ahead, still told", x.person(1, 5), 6);
    }

    private static void act() {
        C.topic("promise 8");
        MovedSpan x = Checks.river(EVEN);
        C.due("no such person", x.act(2, 1), -11);
        C.due("no such act", x.act(0, 7), -11);
        C.due("can't be", x.act(0, 3), -12);
        C.due("nothing was done", x.count(9), 0);
        C.due("up", x.act(0, 1), 2);
        C.due("stay", x.act(0, 0), 0);
        C.due("it is still there", x.person(0, 0), 0);
        C.due("a later act strikes", x.person(0, 5), 0);
        C.due("down", x.act(1, 2), 3);
        C.due("calls", x.count(9), 3);
        x.hours(2);
        C.due("cross", x.act(1, 3), 2);
        C.due("on", x.act(1, 4), 8);
        x.fog(1);
        C.due("law", x.act(1, 3), -13);
    }

    private static void tell() {
        C.topic("promise 9");
        MovedSpan x = Checks.river(EVEN);
        C.due("tell", x.tell(0, 2), 1);
        C.due("tell resting", x.tell(0, NONE), 2);
        C.due("it rested", x.tell(0, 0), NONE);
        C.due("no such hour", x.tell(2, 0), -2);
        C.due("no such hour", x.tell(-1, 0), -2);
        C.due("no such gap", x.tell(0, 3), -2);
        C.due("no such gap", x.tell(0, -2), -2);
        C.due("span", x.span(0), 0);
        C.due("calls", x.count(9), 3);
    }

    private static void fog() {
        C.topic("promise 10");
        MovedSpan x = Checks.river(EVEN);
        C.due("fog", x.fog(99), 0);
        C.due("fog", x.fog(100), -3);
        C.due("fog", x.fog(-1), -3);
        x.hours(2);
        C.due("it lasts 1 less each hour", x.fog(1), 97);
        x.hours(3);
        C.due("none then", x.fog(0), 0);
    }

    private static void hours() {
        C.topic("promise 11");
        MovedSpan x = Checks.river(EVEN);
        C.due("0", x.hours(0), -3);
        C.due("49", x.hours(49), -3);
        x.act(0, 1);
        x.act(1, 2);
        C.due("hour", x.hours(1), 0);
        C.due("spots", x.person(0, 0) * 10 + x.person(1, 0), 23);
        C.due("they stay for the present", x.person(0, 5) + x.person(1, 5), 0);
        C.due("hour", x.count(6), 11);
        x.hours(1);
        x.act(0, 3);
        x.act(1, 4);
        x.tell(0, 0);
        C.due("what can't be any more stays", x.hours(1), 0);
        C.due("spots", x.person(0, 0) * 10 + x.person(1, 0), 23);
        x.undo(2);
        C.due("done just in time", x.hours(1), 1);
        C.due("spots", x.person(0, 0) * 10 + x.person(1, 0), 38);
        C.due("done", x.person(0, 4), 1);
        C.due("done once", x.hours(48), 0);
        C.due("hour", x.count(6), 61);
        MovedSpan late = Checks.river("river 2 week 1;person at 0 west to 1 west by 2;person at 1 west to 0 west by 1;");
        late.hours(1);
        late.act(0, 1);
        late.act(1, 2);
        C.due("by hour 2 and by hour 1", late.hours(1), 1);
        C.due("done", late.count(4), 1);
    }

    private static void undo() {
        C.topic("promise 12");
        MovedSpan x = Checks.river(EVEN);
        C.due("nothing", x.undo(1), -3);
        x.act(0, 1);
        x.fog(5);
        x.tell(1, 2);
        x.hours(4);
        C.due("n", x.undo(0), -3);
        C.due("more than can be", x.undo(5), -3);
        C.due("hours", x.undo(1), 3);
        C.due("hour, fog, spot, told", x.count(6) * 1000 + x.count(7) * 100 + x.person(0, 0) * 10 + x.person(0, 5), 10501);
        C.due("week", x.span(1), 2);
        C.due("tell, fog", x.undo(2), 1);
        C.due("week, fog", x.span(1) * 10 + x.count(7), -10);
        C.due("act", x.undo(1), 0);
        C.due("told", x.person(0, 5), 0);
        for (int i = 1; i <= 12; i++) {
            x.fog(i);
        }
        C.due("ten at most", x.count(9), 10);
        C.due("eleven", x.undo(11), -3);
        C.due("ten", x.undo(10), 0);
        C.due("eldest are forgotten", x.count(7), 2);
        MovedSpan done = Checks.river("river 2 week 1;person at 0 west to 1 west by 2;");
        done.act(0, 1);
        done.hours(1);
        C.due("done", done.count(4), 1);
        done.undo(1);
        C.due("not done", done.count(4), 0);
    }

    private static void judge() {
        C.topic("promise 13");
        MovedSpan x = Checks.river(EVEN);
        C.due("no such tray", x.judge(4, 0), -2);
        C.due("no such tray", x.judge(-1, 0), -2);
        C.due("what, ahead of a tray that is missing", x.judge(0, 4), -2);
        C.due("missing", x.judge(0, 3), -6);
        Checks.fill(x, 0);
        judged(x, NONE, 0, 0, 10);
        Checks.fill(x, 0, 1, 12, -1, -1, 3, -1);
        judged(x, NONE, 0, 1, 13);
        Checks.fill(x, 0, -1, 3, -1);
        judged(x, 1, 2, 0, 11);
        Checks.fill(x, 0, 1, -1, -1, 201, 3, -1);
        judged(x, 4, 3, 0, 12);
        Checks.fill(x, 0, 1, -1, 111, 3, -1, 119, 100, 109, 209, 200, 20);
        judged(x, 10, 1, 1, 12);
        int[] bad = {7, 17, 20, 49, 50, 99, 103, 108, 120, 159, 160, 199, 210, -2, 1000};
        for (int v : bad) {
            Checks.fill(x, 0, -1, v);
            judged(x, 1, 1, 0, 11);
        }
        C.due("nothing changed", x.count(6) * 10 + x.count(9), 100);
        MovedSpan six = Checks.river("river 4 week 6;person at 0 west;person at 0 west;person at 0 west;person at 0 west;person at 3 west;");
        Checks.fill(six, 0, 0, 46, 159, 150);
        judged(six, 1, 2, 0, 0);
        Checks.fill(six, 0, 40, 42, 44, 159, 153, 100, 209, -1);
        judged(six, 2, 2, 0, 0);
        Checks.fill(six, 0, 40, 42, 159, 153, 103, 200, 209, -1);
        judged(six, NONE, 0, 0, 1);
        x.numbers(1, 3, 1);
        x.write(1, 0, (1L << 32) - 1);
        C.due("a number of 64 bits", x.judge(1, 1), 1);
    }

    private static void judged(MovedSpan x, int place, int why, int done, int hour) {
        C.due("place", x.judge(0, 0), place);
        C.due("why", x.judge(0, 1), why);
        C.due("done", x.judge(0, 2), done);
        C.due("hour", x.judge(0, 3), hour);
    }

    private static void perform() {
        C.topic("promise 14");
        MovedSpan x = Checks.river(EVEN);
        C.due("no such tray", x.perform(4), -2);
        C.due("missing", x.perform(0), -6);
        Checks.fill(x, 0, 20);
        C.due("none", x.perform(0), 0);
        C.due("a call that did none can't be undone", x.count(9), 0);
        Checks.fill(x, 0, 1, -1, -1, 201, 3, -1);
        C.due("till one can't be", x.perform(0), 4);
        C.due("hour, fog, spot", x.count(6) * 100 + x.count(7) * 10 + x.person(0, 0), 1212);
        C.due("undone as a whole", x.undo(1), 0);
        C.due("hour, fog, spot", x.count(6) * 100 + x.count(7) * 10 + x.person(0, 0), 1000);
        Checks.fill(x, 0, 1, -1, 110, 3, 111, 3, 109, 203);
        C.due("the span elsewhere", x.perform(0), 3);
        x.undo(1);
        Checks.fill(x, 0, 1, -1, 111, 3, 109, 203);
        C.due("all", x.perform(0), 6);
        C.due("told, week, fog", x.person(0, 5) * 100 + x.span(0) * 10 + x.count(7), 313);
        C.due("week", x.span(1), NONE);
    }

    private static void year() {
        C.topic("promise 15");
        MovedSpan x = Checks.river(EVEN);
        C.due("0 times", x.year(1, 0), -3);
        C.due("41 times", x.year(1, 41), -3);
        int seed = 1;
        for (int i = 0; i < 300; i++) {
            oneOfAYear(seed);
            seed = seed * 31 + 7;
        }
        MovedSpan none = new MovedSpan();
        // Without people a draw that is 1 or 2 modulo 4 is all that is drawn.
        int wanted = 0;
        int d = 5;
        for (int i = 0; i < 40; i++) {
            d = 1103515245 * d + 12345;
            int kind = (d >>> 16) % 4;
            if (kind == 0 || kind == 3) {
                wanted++;
            }
            if (kind == 3) {
                d = 1103515245 * d + 12345;
            }
        }
        C.due("without people", none.year(5, 40), wanted);
        C.due("undone as a whole", none.undo(1), 0);
        C.due("hour", none.count(6), 0);
    }

    private static void oneOfAYear(int seed) {
        MovedSpan x = Checks.river(EVEN);
        int a = 1103515245 * seed + 12345;
        int b = 1103515245 * a + 12345;
        int c = 1103515245 * b + 12345;
        int kind = (a >>> 16) % 4;
        int p = (b >>> 16) % 2;
        int act = (c >>> 16) % 7;
        boolean can = kind == 0 || kind == 3 || x.why(p, act) == 0;
        C.due("year(" + seed + ", 1)", x.year(seed, 1), can ? 1 : 0);
        C.due("undoing", x.count(9), can ? 1 : 0);
        C.due("hour", x.count(6), kind == 0 ? 11 : 10);
        C.due("fog", x.count(7), kind == 3 ? (b >>> 16) % 3 : 0);
        C.due("told", x.person(p, 5), (kind == 1 || kind == 2) && can ? act : 0);
    }

    private static void soonest() {
        C.topic("promise 16");
        MovedSpan x = Checks.river(EVEN);
        int[] due = {0, 4, 1, 3, 2, 4, -2, -2, 3, -2};
        for (int s = 0; s < due.length; s++) {
            C.due("soonest(0, " + s + ")", x.soonest(0, s), due[s]);
        }
        C.due("no such person", x.soonest(2, 0), -2);
        C.due("no such spot", x.soonest(0, -1), -2);
        x.act(0, 1);
        C.due("what it was told aside", x.soonest(0, 3), 3);
        x.fog(3);
        C.due("fog as long as it lasts", x.soonest(0, 3), 5);
        x.fog(58);
        C.due("60 at most", x.soonest(0, 3), 59);
        x.fog(59);
        C.due("60 at most", x.soonest(0, 3), NONE);
        x.fog(60);
        C.due("60 at most", x.soonest(1, 8), NONE);
        x.tell(1, 1);
        C.due("not by 60", x.soonest(0, 3), NONE);
        x.fog(59);
        C.due("by 60", x.soonest(0, 3), 60);
        C.due("never", Checks.river("river 2 week 1;person at 0 west;walks:1=2;").soonest(0, 2), NONE);
    }

    private static void way() {
        C.topic("promise 17");
        MovedSpan x = Checks.river(EVEN);
        int[] due = {0, 1, 3, NONE, NONE};
        for (int i = 0; i < due.length; i++) {
            C.due("way(0, 3, " + i + ")", x.way(0, 3, i), due[i]);
        }
        C.due("it is there", x.way(0, 0, 0), NONE);
        C.due("below 0", x.way(0, 3, -1), -3);
        C.due("no such spot ahead of i", x.way(0, 6, -1), -2);
        C.due("no such person", x.way(2, 3, 0), -2);
        C.due("there is no way", Checks.river("river 2 week 1;person at 0 west;walks:1=2;").way(0, 2, 0), NONE);
        MovedSpan ride = Checks.river("river 3 week 2;person at 0 west;span 0 at 0;span 1 at 2;walks:1=2;");
        int[] riding = {4, 6, NONE};
        for (int i = 0; i < riding.length; i++) {
            C.due("a ride", ride.way(0, 5, i), riding[i]);
        }
        C.due("off to the west", ride.way(0, 4, 1), 5);
        MovedSpan like = Checks.river("river 2 week 1;person at 0 west;");
        C.due("up ahead of cross", like.way(0, 3, 0) * 10 + like.way(0, 3, 1), 31);
        like.tell(0, 1);
        C.due("up, then cross", like.way(0, 3, 0) * 10 + like.way(0, 3, 1), 13);
    }

    private static void ways() {
        C.topic("promise 18");
        MovedSpan x = Checks.river(EVEN);
        C.due("in 3 hours", x.ways(0, 3, 3), 2);
        C.due("in 2 hours", x.ways(0, 3, 2), 0);
        C.due("in 0 hours", x.ways(0, 0, 0), 1);
        C.due("in 0 hours", x.ways(0, 2, 0), 0);
        C.due("staying", x.ways(0, 0, 1), 1);
        C.due("there, or there and back", x.ways(0, 0, 2), 2);
        C.due("13", x.ways(0, 0, 13), -3);
        C.due("-1", x.ways(0, 0, -1), -3);
        C.due("no such spot", x.ways(0, 6, 13), -2);
        C.due("no such person", x.ways(5, 0, 0), -2);
        MovedSpan all = Checks.river("river 2 week 1;person at 0 west;walks:1=2;");
        // Three spots joined all with all: 3 to the 12th by 3, one of them.
        C.due("three spots", all.ways(0, 8, 12), 177147);
    }

    private static void reach() {
        C.topic("promise 19");
        MovedSpan x = Checks.river(EVEN);
        int[] due = {1, 5, 21, 285};
        for (int n = 0; n < due.length; n++) {
            C.due("reach(0, " + n + ")", x.reach(0, n), due[n]);
        }
        C.due("all", x.reach(0, 60), 319);
        C.due("61", x.reach(0, 61), -3);
        C.due("-1", x.reach(0, -1), -3);
        C.due("no such person", x.reach(2, 61), -2);
        x.fog(99);
        C.due("in fog", x.reach(0, 60), 21);
    }

    private static void meet() {
        C.topic("promises 20, 21");
        MovedSpan x = Checks.river(EVEN);
        C.due("meet", x.meet(0, 1), 3);
        C.due("meetAt", x.meetAt(0, 1), 2);
        C.due("meet", x.meet(1, 0), 3);
        C.due("both one", x.meet(0, 0), -2);
        C.due("both one", x.meetAt(1, 1), -2);
        C.due("no such person", x.meet(0, 2), -2);
        C.due("no such person", x.meetAt(-1, 0), -2);
        x.fog(99);
        C.due("not by then", x.meet(0, 1), NONE);
        C.due("not by then", x.meetAt(0, 1), NONE);
        MovedSpan late = Checks.river("river 2 week 1;person at 0 west;person at 0 east;");
        late.fog(59);
        C.due("in 60 hours", late.meet(0, 1) * 10 + late.meetAt(0, 1), 600);
        late.fog(60);
        C.due("not in 60 hours", late.meet(0, 1) * 10 + late.meetAt(0, 1), -11);
        MovedSpan same = Checks.river("river 2 week 1;person at 1 east;person at 1 east;person at 0 east;person at 0 west;walks:1=2;");
        C.due("at one spot", same.meet(0, 1), 0);
        C.due("at one spot", same.meetAt(0, 1), 3);
        C.due("the first spot", same.meet(2, 3) * 10 + same.meetAt(2, 3), 10);
        MovedSpan ride = Checks.river("river 2 week 2;person at 0 west;person at 1 east;walks:1=2;span 0 at 0;span 1 at 1;");
        C.due("on the span, or at one end", ride.meet(0, 1) * 10 + ride.meetAt(0, 1), 22);
        ride.tell(1, NONE);
        C.due("never", ride.meet(0, 1), NONE);
    }

    private static void inTime() {
        C.topic("promise 22");
        MovedSpan x = Checks.river(EVEN);
        C.due("in time", x.inTime(), 1);
        x.hours(1);
        C.due("in time", x.inTime(), 1);
        x.hours(1);
        C.due("too late", x.inTime(), 0);
        x.undo(2);
        x.fog(3);
        C.due("15 is above 14", x.inTime(), 0);
        MovedSpan far = Checks.river("river 2 week 1;person at 0 west to 0 east by 999;person at 0 west to 1 west by 1;"
            + "person at 0 west to 1 west by 0;person at 0 east to 0 east by 0;person at 0 west;");
        C.due("some", far.inTime(), 11);
        far.fog(59);
        C.due("by 60", far.inTime(), 11);
        far.fog(60);
        C.due("not by 60", far.inTime(), 10);
        far.hours(5);
        C.due("it was done", far.inTime(), 9);
    }

    private static void spare() {
        C.topic("promise 23");
        MovedSpan x = Checks.river(EVEN);
        C.due("spare", x.spare(0), 1);
        C.due("no errand", x.spare(1), -5);
        C.due("no such person", x.spare(2), -2);
        x.hours(1);
        C.due("spare", x.spare(0), 0);
        x.hours(1);
        C.due("too late", x.spare(0), NONE);
        MovedSpan far = Checks.river("river 2 week 1;person at 0 west to 0 east by 999;person at 0 west to 1 west by 999;"
            + "person at 0 west to 0 west by 0;");
        C.due("60 at most", far.spare(0), 60);
        C.due("done", far.spare(2), 60);
        far.fog(99);
        C.due("fog that lasts less then", far.spare(0), 60);
        C.due("walking", far.spare(1), 60);
        MovedSpan near = Checks.river("river 2 week 1;person at 0 west to 0 east by 70;");
        near.fog(65);
        C.due("from 6 on, within 60", near.spare(0), 60);
        C.due("not from now on", near.soonest(0, 1), NONE);
        C.due("nor in time", near.inTime(), 0);
    }

    private static void needs() {
        C.topic("promise 24");
        MovedSpan x = Checks.river(EVEN);
        C.due("hour 0", x.needs(0), 1);
        C.due("no errand", x.needs(1), -5);
        C.due("no such person", x.needs(-1), -2);
        x.tell(1, 1);
        C.due("either hour does", x.needs(0), 0);
        x.hours(4);
        C.due("it isn't anyhow", x.needs(0), NONE);
        MovedSpan ride = Checks.river("river 3 week 3;person at 0 west to 2 east by 2;walks:1=2;span 1 at 2;span 2 rest;");
        C.due("both hours", ride.needs(0), 3);
        ride.act(0, 4);
        ride.hours(1);
        ride.act(0, 6);
        ride.hours(1);
        C.due("done", ride.needs(0), 0);
    }

    private static void moves() {
        C.topic("promise 25");
        MovedSpan x = Checks.river(EVEN);
        C.due("two", x.moves(), 2);
        x.tell(0, NONE);
        C.due("none", x.moves(), 0);
        MovedSpan six = Checks.river("river 4 week 6;span 1 at 1;span 2 at 1;span 3 rest;span 4 at 3;");
        C.due("0 1 1 r 3 0", six.moves(), 4);
        six.tell(5, 3);
        C.due("0 1 1 r 3 3", six.moves(), 4);
    }

    private static void best() {
        C.topic("promise 26");
        MovedSpan x = Checks.river(EVEN);
        C.due("count", x.best(0), 1);
        C.due("moves", x.best(1), 0);
        C.due("hour 0", x.best(10), 0);
        C.due("hour 1", x.best(11), 0);
        for (int what : new int[] {-1, 2, 9, 12, 15}) {
            C.due("best(" + what + ")", x.best(what), -2);
        }
        // Who can't walk has to ride: on at 0 in hour 0, off at 2 in hour 1 or 2.
        MovedSpan ride = Checks.river("river 3 week 3;person at 0 west to 2 east by 3;walks:1=2;span 0 rest;span 1 rest;span 2 rest;");
        C.due("count", ride.best(0), 1);
        C.due("moves", ride.best(1), 2);
        C.due("week", ride.best(10) * 100 + ride.best(11) * 10 + ride.best(12), 2);
        ride.hours(1);
        C.due("an hour later: moves", ride.best(1), 2);
        C.due("week 0 0 2 and 2 0 0 don't do, 0 0 2 does", ride.best(10) * 100 + ride.best(11) * 10 + ride.best(12), 2);
        ride.hours(1);
        C.due("too late", ride.best(0), 0);
        C.due("moves", ride.best(1), 0);
        C.due("week", ride.best(10) + ride.best(11) + ride.best(12), 0);
        ride.undo(2);
        ride.fog(1);
        C.due("fog in hour 0", ride.best(10) * 100 + ride.best(11) * 10 + ride.best(12), 2);
        MovedSpan two = Checks.river("river 2 week 2;person at 0 west to 0 east by 2;person at 1 west to 1 east by 2;walks:1=2;");
        C.due("two moves for two errands", two.best(0) * 10 + two.best(1), 22);
        C.due("the first by hours", two.best(10) * 10 + two.best(11), 1);
        MovedSpan soon = Checks.river("river 2 week 3;person at 0 west to 0 east by 1;person at 1 west to 1 east by 1;walks:1=2;");
        C.due("one of two", soon.best(0) * 10 + soon.best(1), 10);
        C.due("all at gap 0", soon.best(10) + soon.best(11) + soon.best(12), 0);
        C.due("by no week both", soon.weeks(), 0);
    }

    private static void change() {
        C.topic("promise 27");
        MovedSpan x = Checks.river(EVEN);
        C.due("none is better", x.change(), NONE);
        x.tell(0, NONE);
        C.due("hour 0 at gap 0", x.change(), 0);
        MovedSpan ride = Checks.river("river 3 week 3;person at 0 west to 2 east by 3;walks:1=2;span 0 at 0;span 1 rest;span 2 rest;");
        C.due("hour 1 at gap 2", ride.change(), 12);
        ride.hours(1);
        C.due("none does", ride.change(), NONE);
        MovedSpan two = Checks.river("river 2 week 3;person at 0 west to 0 east by 2;person at 1 west to 1 east by 2;"
            + "person at 0 east to 0 west by 2;walks:1=2;span 0 rest;span 1 rest;");
        C.due("most of them", two.change(), 0);
    }

    private static void weeks() {
        C.topic("promise 28");
        MovedSpan x = Checks.river(EVEN);
        C.due("all but two", x.weeks(), 14);
        C.due("without errands", Checks.river("river 4 week 6;person at 0 west;").weeks(), 15625);
        C.due("done", Checks.river("river 3 week 2;person at 0 west to 0 west by 0;").weeks(), 16);
        C.due("by none", Checks.river("river 3 week 2;person at 0 west to 1 west by 0;").weeks(), 0);
        MovedSpan two = Checks.river("river 2 week 2;person at 0 west to 0 east by 2;person at 1 west to 1 east by 2;walks:1=2;");
        C.due("two", two.weeks(), 2);
        MovedSpan ride = Checks.river("river 3 week 3;person at 0 west to 2 east by 3;walks:1=2;");
        C.due("0 2 any, 0 any 2, any 0 2, less 0 2 2 and 0 0 2 told twice", ride.weeks(), 10);
    }

    private static void shift() {
        C.topic("promise 29");
        MovedSpan x = Checks.river(EVEN);
        C.due("none", x.shift(), 0);
        MovedSpan ride = Checks.river("river 3 week 3;person at 0 west to 2 east by 2;walks:1=2;span 1 at 2;span 2 rest;hour 0;");
        C.due("0 2 r as it is", ride.shift(), 0);
        ride.tell(0, 2);
        ride.tell(1, NONE);
        ride.tell(2, 0);
        C.due("2 r 0, 1 hour later: 0 2 r", ride.shift(), 1);
        ride.tell(0, NONE);
        ride.tell(1, 0);
        ride.tell(2, 2);
        C.due("r 0 2, 2 hours later: 0 2 r", ride.shift(), 2);
    }

    private static void fits() {
        C.topic("promise 30");
        MovedSpan x = Checks.river(EVEN);
        C.due("no such tray", x.fits(4, 0, 0), -2);
        C.due("no such person", x.fits(0, 2, 0), -2);
        C.due("no such hour", x.fits(0, 0, 2), -2);
        C.due("missing", x.fits(0, 0, 0), -6);
        Checks.fill(x, 0);
        C.due("no number", x.fits(0, 0, 0), -4);
        Checks.fill(x, 0, -1, -1, -1, -1, -1, -1, -1, -1, -1, -1, -1, -1, -2);
        C.due("13 numbers", x.fits(0, 0, 0), -4);
        Checks.fill(x, 0, 0, 6);
        C.due("no spot", x.fits(0, 0, 0), -3);
        Checks.fill(x, 0, 0, -2);
        C.due("no spot", x.fits(0, 0, 0), -3);
        x.numbers(0, 3, 1);
        x.write(0, 0, 1L << 32);
        C.due("no spot", x.fits(0, 0, 0), -3);
        x.write(0, 0, -1L << 32);
        C.due("no spot", x.odd(0, 0), -3);
        Checks.fill(x, 0, 4, 5);
        C.due("crossed at gap 2 in hour 0", x.fits(0, 0, 0), 4);
        C.due("not by hour 1", x.fits(0, 0, 1), 0);
        Checks.fill(x, 0, -1, 4, 5);
        C.due("crossed at gap 2 in hour 1", x.fits(0, 0, 1), 4);
        Checks.fill(x, 0, -1, -1);
        C.due("not seen", x.fits(0, 0, 0), 23);
        Checks.fill(x, 0, 0, 2, 8, 8, 5);
        C.due("got on at gap 1 and off at gap 2, both in hour 1", x.fits(0, 0, 1), 0);
        Checks.fill(x, 0, 0, 2, 8, 8, 2);
        C.due("got on at gap 1 and off there, both in hour 1", x.fits(0, 0, 1), 2);
        Checks.fill(x, 0, 0, -1, 3);
        C.due("crossed at 0 and up, up and crossed in hour 1", x.fits(0, 0, 0), 1);
        C.due("crossed at 1 in hour 1", x.fits(0, 0, 1), 2);
        Checks.fill(x, 0, 0, -1, -1, -1, 3);
        C.due("hour 0: at 0, at 1, at 2", x.fits(0, 0, 0), 7);
        C.due("hour 1: anywhere", x.fits(0, 0, 1), 23);
        x.fog(3);
        C.due("fog as it is", x.fits(0, 0, 1), 2);
    }

    private static void surest() {
        C.topic("promise 31");
        MovedSpan x = Checks.river(EVEN);
        C.due("no such tray", x.surest(-1, 0), -2);
        C.due("no such person", x.surest(0, 9), -2);
        C.due("missing", x.surest(0, 0), -6);
        Checks.fill(x, 0);
        C.due("no number", x.surest(0, 0), -4);
        Checks.fill(x, 0, 7);
        C.due("no spot", x.surest(0, 0), -3);
        Checks.fill(x, 0, -1, 4, 5);
        C.due("hour 1", x.surest(0, 0), 1);
        Checks.fill(x, 0, 0, -1, 3);
        C.due("the first of like ones", x.surest(0, 0), 0);
        Checks.fill(x, 0, 0, -1, -1, -1, 3);
        C.due("three are fewer than four", x.surest(0, 0), 0);
        Checks.fill(x, 0, 0, 5);
        C.due("none fits", x.surest(0, 0), NONE);
    }

    private static void odd() {
        C.topic("promise 32");
        MovedSpan x = Checks.river(EVEN);
        C.due("no such tray", x.odd(4, 0), -2);
        C.due("no such person", x.odd(0, 2), -2);
        C.due("missing", x.odd(0, 0), -6);
        Checks.fill(x, 0);
        C.due("no number", x.odd(0, 0), -4);
        Checks.fill(x, 0, 9);
        C.due("no spot", x.odd(0, 0), -3);
        Checks.fill(x, 0, 2, 3, 5, 3, 8, 8, 8, 2);
        C.due("8 in hour 3 of it: rests", x.odd(0, 0), 4);
        Checks.fill(x, 0, 2, 3, 5, 5, 3, 8, 8, 2, 4);
        C.due("all can", x.odd(0, 0), NONE);
        Checks.fill(x, 0, -1, -1, 0, -1, 5);
        C.due("place 4", x.odd(0, 0), 4);
        Checks.fill(x, 0, -1, 3, 3, 2);
        C.due("crossed in hour 12", x.odd(0, 0), NONE);
        x.fog(3);
        C.due("in fog", x.odd(0, 0), 3);
        x.fog(2);
        C.due("behind it", x.odd(0, 0), NONE);
    }

    private static void chance() {
        C.topic("promise 33");
        MovedSpan x = Checks.river(EVEN);
        chanceIs(x, 2, 0, 1);
        chanceIs(x, 3, 7, 10);
        chanceIs(x, 4, 7, 10);
        chanceIs(x, 5, 91, 100);
        chanceIs(x, 7, 973, 1000);
        chanceIs(x, 9, 9919, 10000);
        C.due("it is there", x.chance(0, 0, 0, 0), 1);
        C.due("it is there", x.chance(0, 0, 9, 1), 1);
        C.due("n", x.chance(0, 3, 10, 0), -3);
        C.due("n", x.chance(0, 3, -1, 0), -3);
        C.due("what", x.chance(0, 3, 10, 2), -2);
        C.due("spot", x.chance(0, 6, 1, 0), -2);
        C.due("person", x.chance(2, 0, 1, 0), -2);
        x.fog(99);
        chanceIs(x, 3, 7, 10);
        x.hours(1);
        chanceIs(x, 2, 7, 10);
        // In fog over at gap 0 at once, without at gap 1 an hour later: fog shows ahead of the acts.
        MovedSpan y = Checks.river("river 2 week 2;span 1 at 1;foggy 5;person at 0 west;serves:gap=0 and fog=1 or gap=1 and fog=0;");
        C.due("over at 1 east, above", y.chance(0, 3, 2, 0), 3);
        C.due("over at 1 east, below", y.chance(0, 3, 2, 1), 4);
        MovedSpan sure = Checks.river("river 2 week 1;foggy 10;person at 0 west;");
        C.due("always fog", sure.chance(0, 1, 9, 0), 0);
        C.due("always fog", sure.chance(0, 1, 9, 1), 1);
    }

    private static void chanceIs(MovedSpan x, int n, int above, int below) {
        C.due("chance(0, 3, " + n + ", 0)", x.chance(0, 3, n, 0), above);
        C.due("chance(0, 3, " + n + ", 1)", x.chance(0, 3, n, 1), below);
    }

    private static void likely() {
        C.topic("promise 34");
        MovedSpan x = Checks.river(EVEN);
        C.due("0", x.likely(0, 3, 0), 0);
        C.due("1", x.likely(0, 3, 1), 3);
        C.due("70", x.likely(0, 3, 70), 3);
        C.due("71", x.likely(0, 3, 71), 5);
        C.due("91", x.likely(0, 3, 91), 5);
        C.due("92", x.likely(0, 3, 92), 7);
        C.due("98", x.likely(0, 3, 98), 9);
        C.due("100", x.likely(0, 3, 100), NONE);
        C.due("it is there", x.likely(0, 0, 100), 0);
        C.due("101", x.likely(0, 3, 101), -3);
        C.due("-1", x.likely(0, 3, -1), -3);
        C.due("no such spot", x.likely(0, 6, 101), -2);
        C.due("no such person", x.likely(2, 3, 1), -2);
    }

    private static void numbers() {
        C.topic("promise 35");
        MovedSpan x = new MovedSpan();
        C.due("no such tray", x.numbers(4, 0, 1), -2);
        C.due("no such tray", x.numbers(-1, 0, 1), -2);
        C.due("no such sort", x.numbers(0, 4, 1), -2);
        C.due("no such sort", x.numbers(0, -1, 41), -2);
        C.due("41", x.numbers(0, 0, 41), -3);
        C.due("still missing", x.perform(0), -6);
        C.due("0", x.numbers(0, 0, 0), 0);
        C.due("40", x.numbers(3, 3, 40), 0);
        C.due("write", x.write(3, 39, -1), -1);
        C.due("-1", x.numbers(3, 3, -1), -3);
        Checks.fill(x, 1, -1, -1);
        C.due("both", x.perform(1), 2);
        C.due("41, and it stays", x.numbers(1, 0, 41), -3);
        C.due("both", x.perform(1), 2);
        x.numbers(1, 1, 2);
        C.due("all 0", x.judge(1, 1) * 10 + x.judge(1, 0), 10);
    }

    private static void write() {
        C.topic("promise 36");
        MovedSpan x = new MovedSpan();
        C.due("no such tray", x.write(4, 0, 1), -2);
        C.due("missing", x.write(0, 0, 1), -6);
        long v = 0x123456789abcdef0L;
        long[] cut = {(byte) v, (short) v, (int) v, v};
        for (int sort = 0; sort < 4; sort++) {
            x.numbers(sort, sort, 2);
            C.due("sort " + sort, x.write(sort, 1, v), cut[sort]);
            C.due("NONE", x.write(sort, 1, -1), -1);
            C.due("no such number", x.write(sort, 2, 1), -7);
            C.due("no such number", x.write(sort, -1, 1), -7);
        }
        C.due("200 in 8 bits", x.write(0, 0, 200), -56);
        C.due("255 in 8 bits", x.write(0, 0, 255), -1);
        C.due("40000 in 16 bits", x.write(1, 0, 40000), -25536);
    }

    private static void lists() {
        C.topic("promise 37");
        MovedSpan x = Checks.river(EVEN);
        C.due("no such tray", x.lists(4, 0, 3), -2);
        C.due("no such person", x.lists(0, 2, 3), -2);
        C.due("no such spot", x.lists(0, 0, 6), -2);
        C.due("missing", x.lists(0, 0, 3), -6);
        x.numbers(0, 0, 7);
        x.write(0, 6, -1);
        C.due("three acts, three hours", x.lists(0, 0, 3), 6);
        C.due("performed, and what stood behind them", x.perform(0), 7);
        C.due("done", x.count(4) * 100 + x.count(6), 114);
        C.due("it is there", x.lists(0, 0, 3), 0);
        x.undo(1);
        x.numbers(1, 3, 3);
        C.due("as far as it has places", x.lists(1, 0, 3), 3);
        C.due("performed", x.perform(1), 3);
        C.due("told", x.person(0, 5) * 100 + x.count(6), 111);
        x.undo(1);
        x.numbers(2, 0, 9);
        C.due("person 1 to 2 west", x.lists(2, 1, 4), 8);
        C.due("performed, and person 0 stays", x.judge(2, 0), NONE);
        x.fog(99);
        C.due("no way", x.lists(0, 0, 3), -5);
        C.due("no places", x.numbers(0, 0, 0), 0);
        C.due("no way", x.lists(0, 0, 3), -5);
        C.due("no places", x.lists(0, 0, 2), 0);
    }

    private static void images() {
        C.topic("promises 38, 39");
        MovedSpan x = new MovedSpan();
        C.due("no such", x.image(2), -2);
        C.due("no such", x.image(-1), -2);
        C.due("no such", x.restore(2), -2);
        C.due("none was made", x.restore(0), -5);
        C.due("image", x.image(1), 0);
        Checks.tell(x, EVEN);
        x.act(0, 1);
        x.fog(3);
        x.tell(1, 2);
        C.due("image", x.image(0), 0);
        C.due("what could be undone still can", x.count(9), 3);
        x.hours(3);
        Checks.tell(x, "river 4 week 6;person at 0 east;person at 3 east;person at 3 west;walks:1=2;");
        x.fog(1);
        Checks.fill(x, 0, -1);
        x.feed(1, 2, 3, 4, 5);
        C.due("restore", x.restore(0), 0);
        C.due("gaps, week, people", x.count(0) * 100 + x.count(1) * 10 + x.count(2), 322);
        C.due("hour, fog, told", x.count(6) * 100 + x.count(7) * 10 + x.person(0, 5), 1031);
        C.due("week", x.span(1), 2);
        C.due("foggy, lines", x.count(8) * 10 + x.count(11), 37);
        C.due("load, errand", x.person(0, 1) * 1000 + x.person(0, 2) * 100 + x.person(0, 3), 7314);
        C.due("the law", x.why(0, 1), 0);
        C.due("nothing can be undone", x.undo(1), -3);
        C.due("tray and tape stay", x.judge(0, 0) * 100 + x.count(10), -80);
        x.hours(9);
        C.due("again", x.restore(0), 0);
        C.due("hour", x.count(6), 10);
        C.due("the other", x.restore(1), 0);
        C.due("without a text", x.count(0) * 100 + x.count(2) * 10 + x.count(11), 200);
    }

    private static void count() {
        C.topic("promise 40");
        MovedSpan x = Checks.river(EVEN);
        x.act(1, 2);
        x.hours(2);
        x.act(1, 4);
        x.hours(1);
        x.fog(4);
        x.feed(1, 2, 3, 4, 5);
        int[] due = {3, 2, 2, 1, 0, 2, 13, 4, 3, 5, 20, 7};
        for (int i = 0; i < due.length; i++) {
            C.due("count(" + i + ")", x.count(i), due[i]);
        }
        C.due("others", x.count(12) + x.count(-1), -2);
        MovedSpan done = Checks.river("river 2 week 1;person at 0 west;person at 0 west to 1 west by 3;person at 1 west to 1 west by 0;");
        C.due("errands, done", done.count(3) * 10 + done.count(4), 64);
        done.act(0, 4);
        done.hours(1);
        C.due("on the span", done.count(5), 1);
    }
}
