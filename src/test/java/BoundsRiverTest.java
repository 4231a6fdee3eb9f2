/** The text of a river, sentence by sentence: what names a boundary, at it and beside it. Promises 1 to 7. */
public final class BoundsRiverTest {
    private static final Checks C = new Checks();
    private static final int NONE = MovedSpan.NONE;
    private static final String HEAD = "river 2 week 1;";
    private static final String WALKS = HEAD + "walks:";
    private static final int[] FAR = {Integer.MIN_VALUE, Integer.MIN_VALUE + 1, -1000, 1000000, Integer.MAX_VALUE};

    public static void main(String[] args) {
        newObject();
        feed();
        river();
        riverOfNineHundred();
        grammarOfLines();
        headNumbers();
        spanLines();
        personLines();
        people();
        foggyAndHour();
        laterOnes();
        bytes();
        tokens();
        faultsOfOneToken();
        firstFault();
        theEnd();
        riverFirstAndOnce();
        depth();
        truths();
        keptSums();
        lawAtoms();
        fault();
        span();
        person();
        why();
        C.end("BoundsRiverTest");
    }

    private static void newObject() {
        C.sentence(1, "2 GAPS, a WEEK of 1 HOUR, no PEOPLE");
        MovedSpan x = new MovedSpan();
        C.due("gaps", x.count(0), 2);
        C.due("hours", x.count(1), 1);
        C.due("people", x.count(2), 0);
        C.due("the hour it has", x.tell(0, 1), 0);
        C.due("no other", x.tell(1, 1), -2);
        C.due("no third gap", x.tell(0, 2), -2);
        C.due("nobody", x.person(0, 0), -2);
        x.restore(0);
        C.due("without images and trays", x.restore(1) * 100 + x.perform(0) * 10 + x.perform(3), -566);
        C.sentence(1, "An object is used for at most 512 calls");
        MovedSpan busy = new MovedSpan();
        for (int i = 0; i < 511; i++) {
            busy.hours(48);
        }
        C.due("the 512th call", busy.count(6), 511 * 48);
    }

    private static void feed() {
        C.sentence(2, "Twenty bytes come behind those on THE TAPE: how many it has.");
        MovedSpan x = new MovedSpan();
        for (int i = 1; i <= 45; i++) {
            C.due("feed " + i, x.feed(0x20202020, 0, -1, Integer.MIN_VALUE, Integer.MAX_VALUE), 20 * i);
        }
        C.sentence(2, "-5: it would have more than 900.");
        C.due("920", x.feed(1, 2, 3, 4, 5), -5);
        C.due("again", x.feed(1, 2, 3, 4, 5), -5);
        C.due("900 stay", x.count(10), 900);
        C.due("the first byte stays", x.river(900), -31);
        C.due("at place 4", x.fault(1), 4);
        C.due("empty, it takes more", x.feed(1, 2, 3, 4, 5), 20);
        C.sentence(2, "the highest of each int first");
        MovedSpan y = new MovedSpan();
        String twenty = "river 3 week 2;hour ";
        int[] ints = new int[5];
        for (int i = 0; i < 20; i++) {
            ints[i / 4] = ints[i / 4] << 8 | twenty.charAt(i);
        }
        y.feed(ints[0], ints[1], ints[2], ints[3], ints[4]);
        y.feed('4' << 24 | '7' << 16 | '1' << 8 | ';', 0, 0, 0, 0);
        C.due("two feeds", y.river(24), 2);
        C.due("hour", y.count(6), 471);
    }

    private static void river() {
        C.sentence(3, "-3: n is below 0 or above what there is (THE TAPE stays)");
        MovedSpan x = new MovedSpan();
        C.due("nothing on the tape, 1", x.river(1), -3);
        Checks.feed(x, "river 4 week 6;hour 9;");
        C.due("-1", x.river(-1), -3);
        C.due("41", x.river(41), -3);
        for (int n : FAR) {
            C.due("river(" + n + ")", x.river(n), -3);
        }
        C.due("the tape stays", x.count(10), 40);
        C.due("no river was read", x.fault(0) * 10 + x.fault(1), -1);
        C.due("all there is", x.river(40), 2);
        C.sentence(3, "The first n bytes of THE TAPE (which is empty then)");
        C.due("empty", x.count(10), 0);
        C.due("nothing above it", x.river(1), -3);
        Checks.feed(x, "river 4 week 6;hour 9;");
        C.due("the first 15", x.river(15), 1);
        C.due("the rest is gone", x.count(10), 0);
        C.due("gone, too", x.river(7), -3);
        Checks.feed(x, HEAD);
        C.due("none of them", x.river(0), -32);
        C.due("empty with a fault", x.count(10), 0);
        C.due("none, of an empty tape", x.river(0), -32);
        C.due("at its end", x.fault(1), 0);
        C.sentence(3, "how many LINES (river, too)");
        C.lines(HEAD, 1);
        C.lines(HEAD + "hour 0;", 2);
        C.sentence(3, "all stays with a FAULT");
        MovedSpan y = Checks.river("river 3 week 2;person at 2 east load 9 to 0 west by 40;foggy 3;hour 7;walks:gap>0;");
        y.fog(5);
        y.act(0, 2);
        y.tell(1, 2);
        String before = Probe.state(y);
        Checks.tell(y, "river 2 week 1;person at 0 west;person at 1 west;foggy 9;hour 3;walks:1=2;serves:1=2;span 0 rest");
        C.same("all stays", Probe.state(y), before);
        C.due("the law stays", y.why(0, 2), 0);
        C.due("what can be undone", y.undo(3), 0);
        C.sentence(3, "no FOG, nothing told, nothing can be UNDONE");
        y.fog(5);
        y.act(0, 2);
        y.tell(1, 2);
        Checks.tell(y, "river 3 week 2;person at 2 east load 9 to 0 west by 40;");
        C.due("fog, told, undone, week, hour", y.count(7) + y.person(0, 5) + y.count(9) + y.span(1) + y.count(6), 0);
        C.due("nothing to undo", y.undo(1), -3);
    }

    private static void riverOfNineHundred() {
        C.sentence(3, "THE RIVER is a TEXT of at most 900 bytes");
        MovedSpan x = C.lines(HEAD + "hour 7;".repeat(126) + "   ", 127);
        C.due("hour", x.count(6), 7);
        String toTheLast = HEAD + "hour 1;".repeat(125) + "hour  123;";
        MovedSpan y = C.lines(toTheLast, 127);
        C.due("its length", toTheLast.length(), 900);
        C.due("the last line's hour", y.count(6), 123);
        Checks.feed(y, toTheLast);
        C.due("one byte less", y.river(899), -32);
        C.due("the end", y.fault(1), 899);
        C.fault(" ".repeat(900), 2, 900);
        C.fault("\n".repeat(900), 2, 900);
        C.fault("r".repeat(900), 2, 0);
        C.fault("7".repeat(900), 1, 0);
        C.fault(";".repeat(900), 2, 0);
        C.fault(HEAD + " ".repeat(881) + "hour", 2, 900);
        C.fault(HEAD + " ".repeat(877) + "hour 123", 2, 900);
        C.fault(HEAD + " ".repeat(876) + "hour 1234", 1, 896);
        C.fault(HEAD + " ".repeat(884) + "#", 1, 899);
        // Each byte a token: 0+0+ .. +0, as far as the text goes.
        String tokens = "river2week1;person at 0west;walks:";
        String sum = "1" + "+1".repeat((900 - tokens.length() - 6) / 2);
        MovedSpan z = C.lines(tokens + sum + "=" + (sum.length() + 1) / 2 + ";", 3);
        C.due("as many sums as a text holds", z.why(0, 1), 0);
        String product = "1" + "*1".repeat((900 - tokens.length() - 4) / 2) + "=2";
        C.due("as many products", C.lines(tokens + product + ";", 3).why(0, 1), 3);
        String truth = "1=2" + " or 1=2".repeat((900 - tokens.length() - 14) / 7) + " or 1=1;";
        C.due("as many truths", C.lines(tokens + truth, 3).why(0, 1), 0);
        String both = "1=1" + " and 1=1".repeat((900 - tokens.length() - 16) / 8) + " and 1=2;";
        C.due("as many of both", C.lines(tokens + both, 3).why(0, 1), 3);
        String flags = "river2week1;person at 0west" + " load 5".repeat(123) + " load 8;";
        MovedSpan w = C.lines(flags, 2);
        C.due("as many flags", w.person(0, 1), 8);
    }

    private static void grammarOfLines() {
        C.sentence(3, "river N week N ; { LINE ; }");
        C.lines(HEAD, 1);
        C.fault(HEAD + ";", 2, 15);
        C.fault("river;", 2, 5);
        C.fault("river week 1;", 2, 6);
        C.fault("river 2;", 2, 7);
        C.fault("river 2 week;", 2, 12);
        C.fault("river 2 week 1 1;", 2, 15);
        C.fault("river 2 2 week 1;", 2, 8);
        C.fault("river:2 week 1;", 2, 5);
        C.fault("river 2 river 2;", 2, 8);
        C.fault(HEAD + "hour 1;;", 2, 22);
        C.fault(HEAD + "hour 1 hour 2;", 2, 22);
        C.fault(HEAD + "foggy;", 2, 20);
        C.fault(HEAD + "foggy 1 2;", 2, 23);
        C.fault(HEAD + "walks:;", 2, 21);
        C.fault(HEAD + "serves;", 2, 21);
        C.fault(HEAD + "serves:;", 2, 22);
        C.fault(HEAD + "walks;", 2, 20);
        C.fault(HEAD + "person;", 2, 21);
        C.fault(HEAD + "person at;", 2, 24);
        C.fault(HEAD + "person at west;", 2, 25);
        C.fault(HEAD + "person at 0;", 2, 26);
        C.fault(HEAD + "person 0 west;", 2, 22);
        C.fault(HEAD + "person at 0 west east;", 2, 32);
        C.fault(HEAD + "person at 0 west load;", 2, 36);
        C.fault(HEAD + "person at 0 west load 1 2;", 2, 39);
        C.fault(HEAD + "person at 0 west to;", 2, 34);
        C.fault(HEAD + "person at 0 west to 1;", 2, 36);
        C.fault(HEAD + "person at 0 west to 1 by 1;", 2, 37);
        C.fault(HEAD + "person at 0 west to 1 west;", 2, 41);
        C.fault(HEAD + "person at 0 west to 1 west by;", 2, 44);
        C.fault(HEAD + "person at 0 west by 1;", 2, 32);
        C.fault(HEAD + "span;", 2, 19);
        C.fault(HEAD + "span 0;", 2, 21);
        C.fault(HEAD + "span 0 at;", 2, 24);
        C.fault(HEAD + "span 0 at rest;", 2, 25);
        C.fault(HEAD + "span 0 rest 0;", 2, 27);
        C.fault(HEAD + "span at 0;", 2, 20);
        for (String word : new String[] {"week", "at", "rest", "west", "east", "load", "to", "by", "or", "and", "not", "gap",
            "who", "fog", "side", "persons", "spans", "hou", "hours", "x"}) {
            C.fault(HEAD + word + ";", 2, 15);
        }
    }

    private static void headNumbers() {
        C.sentence(3, "river: GAPS, 2 to 4");
        C.fault("river 0 week 1;", 3, 6);
        C.fault("river 1 week 1;", 3, 6);
        C.due("2", C.lines("river 2 week 1;", 1).count(0), 2);
        C.due("3", C.lines("river 3 week 1;", 1).count(0), 3);
        C.due("4", C.lines("river 4 week 1;", 1).count(0), 4);
        C.fault("river 5 week 1;", 3, 6);
        C.fault("river 999 week 1;", 3, 6);
        C.sentence(3, "how many HOURS a WEEK has, 1 to 6");
        C.fault("river 2 week 0;", 3, 13);
        C.due("1", C.lines("river 2 week 1;", 1).count(1), 1);
        C.due("6", C.lines("river 2 week 6;", 1).count(1), 6);
        C.fault("river 2 week 7;", 3, 13);
        C.fault("river 2 week 999;", 3, 13);
    }

    private static void spanLines() {
        C.sentence(3, "span: in that HOUR of the WEEK (from 0 on) it lies at that GAP, or RESTS (at GAP 0 without)");
        for (int hours = 1; hours <= 6; hours++) {
            for (int gaps = 2; gaps <= 4; gaps++) {
                String head = "river " + gaps + " week " + hours + ";";
                MovedSpan x = C.lines(head + "span 0 at " + (gaps - 1) + ";span " + (hours - 1) + " rest;", 3);
                C.due("the last hour", x.span(hours - 1), NONE);
                C.due("the first hour", x.span(0), hours == 1 ? NONE : gaps - 1);
                for (int h = 1; h < hours - 1; h++) {
                    C.due("without", x.span(h), 0);
                }
                C.fault(head + "span " + hours + " rest;", 3, 20);
                C.fault(head + "span 0 at " + gaps + ";", 3, 25);
            }
        }
        C.sentence(3, "later ones of an HOUR strike");
        MovedSpan y = C.lines("river 3 week 2;span 0 rest;span 1 at 1;span 0 at 2;span 1 rest;", 5);
        C.due("a gap behind resting", y.span(0), 2);
        C.due("resting behind a gap", y.span(1), NONE);
        C.sentence(3, "3 an N out of its bounds (an HOUR the WEEK hasn't)");
        C.fault("river 4 week 6;span 6 rest;", 3, 20);
        C.fault("river 4 week 6;span 999 rest;", 3, 20);
        C.lines("river 4 week 6;span 5 at 3;hour 6;", 3);
    }

    private static void personLines() {
        C.sentence(3, "person: at a GAP, on a SIDE");
        for (int gap = 0; gap < 4; gap++) {
            MovedSpan x = C.lines("river 4 week 1;person at " + gap + " west;person at " + gap + " east;", 3);
            C.due("west", x.person(0, 0), 2 * gap);
            C.due("east", x.person(1, 0), 2 * gap + 1);
        }
        C.fault("river 4 week 1;person at 4 west;", 3, 25);
        C.fault("river 3 week 1;person at 3 west;", 3, 25);
        C.fault("river 2 week 1;person at 2 west;", 3, 25);
        C.sentence(3, "load 0 to 99 (0)");
        String at = HEAD + "person at 0 west";
        C.due("without", C.lines(at + ";", 2).person(0, 1), 0);
        C.due("0", C.lines(at + " load 0;", 2).person(0, 1), 0);
        C.due("99", C.lines(at + " load 99;", 2).person(0, 1), 99);
        C.fault(at + " load 100;", 3, 37);
        C.fault(at + " load 999;", 3, 37);
        C.sentence(3, "to be at that GAP, on that SIDE, by that HOUR, 0 to 999 (none without)");
        C.due("none", C.lines(at + ";", 2).person(0, 3), NONE);
        C.due("by 0", C.lines(at + " to 1 west by 0;", 2).person(0, 3), 0);
        MovedSpan far = C.lines(at + " to 1 east by 999;", 2);
        C.due("by 999", far.person(0, 3), 999);
        C.due("the last gap", far.person(0, 2), 3);
        C.fault(at + " to 1 east by 1000;", 1, 45);
        C.fault(at + " to 2 east by 1;", 3, 35);
        C.fault("river 4 week 1;person at 0 west to 4 east by 1;", 3, 35);
        C.sentence(3, "later ones of a flag strike");
        MovedSpan x = C.lines(at + " to 1 east by 5 load 7 to 0 east by 3 load 0;", 2);
        C.due("spot", x.person(0, 2), 1);
        C.due("by", x.person(0, 3), 3);
        C.due("load", x.person(0, 1), 0);
        C.sentence(3, "at the first HOUR likewise");
        C.due("by the first hour", C.lines(HEAD + "person at 1 east to 1 east by 999;hour 999;", 3).count(4), 1);
        C.due("below it", C.lines(HEAD + "person at 1 east to 1 east by 998;hour 999;", 3).count(4), 0);
        C.due("elsewhere", C.lines(HEAD + "person at 1 east to 1 west by 999;", 2).count(4), 0);
        C.due("an errand struck", C.lines(HEAD + "person at 1 east to 1 east by 9 to 0 east by 9;", 2).count(4), 0);
    }

    private static void people() {
        C.sentence(3, "numbered from 0 on, 5 at most");
        String one = "person at 0 west;";
        String five = HEAD + one.repeat(5);
        for (int n = 0; n <= 5; n++) {
            MovedSpan x = C.lines(HEAD + one.repeat(n), n + 1);
            C.due("people", x.count(2), n);
            C.due("the last one", x.person(n - 1, 0), n == 0 ? -2 : 0);
            C.due("none behind", x.person(n, 0), -2);
        }
        MovedSpan all = C.lines("river 4 week 1;person at 3 east;person at 3 west;person at 2 east;person at 2 west;person at 1 east;", 6);
        for (int p = 0; p < 5; p++) {
            C.due("person " + p, all.person(p, 0), 7 - p);
        }
        C.sentence(3, "4 the first TOKEN of a 6th person");
        C.fault(five + one, 4, 100);
        C.fault(five + "person", 4, 100);
        C.fault(five + "hour 3;person at 9 north", 4, 107);
        C.fault(five + "persons", 2, 100);
        C.lines(five + "hour 3;", 7);
    }

    private static void foggyAndHour() {
        C.sentence(3, "foggy: how likely it fogs in an HOUR, in 10, 0 to 10 (0)");
        C.due("without", C.lines(HEAD, 1).count(8), 0);
        C.due("0", C.lines(HEAD + "foggy 0;", 2).count(8), 0);
        C.due("10", C.lines(HEAD + "foggy 10;", 2).count(8), 10);
        C.fault(HEAD + "foggy 11;", 3, 21);
        C.fault(HEAD + "foggy 999;", 3, 21);
        C.sentence(3, "hour: the first one, 0 to 999 (0)");
        C.due("without", C.lines(HEAD, 1).count(6), 0);
        C.due("0", C.lines(HEAD + "hour 0;", 2).count(6), 0);
        C.due("999", C.lines(HEAD + "hour 999;", 2).count(6), 999);
        C.fault(HEAD + "hour 1000;", 1, 20);
    }

    private static void laterOnes() {
        C.sentence(3, "Later ones of walks, serves, foggy, hour strike.");
        MovedSpan x = C.lines(HEAD + "person at 0 west;walks:1=2;serves:1=1;foggy 10;hour 999;walks:1=1;serves:1=2;foggy 0;hour 0;", 10);
        C.due("walks", x.why(0, 1), 0);
        C.due("serves", x.why(0, 3), 3);
        C.due("foggy", x.count(8), 0);
        C.due("hour", x.count(6), 0);
        C.lines(HEAD + "walks:1=2;serves:1=1;walks:1=2;", 4);
        MovedSpan y = C.lines(HEAD + "walks:who=0;person at 0 west;serves:load=3;person at 0 west load 3;", 5);
        C.due("laws hold for people told behind them", y.why(0, 1) * 1000 + y.why(1, 1) * 100 + y.why(0, 3) * 10 + y.why(1, 3), 330);
        MovedSpan shorter = C.lines(HEAD + "person at 0 west;walks:not 1=1;walks:1=1;serves:not 1=2;serves:1=2;", 6);
        C.due("a shorter law strikes the whole of a longer one", shorter.why(0, 1) * 10 + shorter.why(0, 3), 3);
        C.sentence(3, "a text strikes all of the one ahead");
        MovedSpan z = C.lines("river 4 week 6;span 0 at 3;span 5 rest;person at 0 west load 9 to 3 east by 7;walks:1=2;serves:1=1;foggy 8;hour 77;", 8);
        C.due("lines", Checks.tell(z, HEAD + "person at 0 west;"), 2);
        z.fog(1);
        C.due("no law walks", z.why(0, 1), 0);
        C.due("no law serves", z.why(0, 3), 3);
        C.due("no load, no errand", z.person(0, 1) * 100 + z.person(0, 2) * 10 + z.person(0, 3), -11);
        C.due("not foggy, hour 0, the span at gap 0", z.count(8) + z.count(6) + z.span(0), 0);
        C.due("lines of this text", z.count(11), 2);
    }

    private static void bytes() {
        C.sentence(4, "TOKENS, between them blanks (10, 32): words (small letters), N, the signs ; : + - * ( ) [ ] = < >");
        for (int b = 0; b < 256; b++) {
            String text = HEAD + (char) b;
            if (b == 10 || b == 32) {
                C.lines(text, 1);
                C.lines("river" + (char) b + "2week 1;", 1);
            } else if (b >= 'a' && b <= 'z' || b >= '0' && b <= '9' || b > 0 && ";:+-*()[]=<>".indexOf(b) >= 0) {
                C.fault(text, 2, 15);
            } else {
                C.fault(text, 1, 15);
                C.fault("river" + (char) b + "2week 1;", 1, 5);
                C.fault("river 2" + (char) b + "week 1;", 1, 7);
            }
        }
    }

    private static void tokens() {
        C.sentence(4, "TOKENS, as long as they go on");
        C.lines("river2week1;hour12;", 2);
        C.fault("riverweek", 2, 0);
        C.fault("ri ver 2 week 1;", 2, 0);
        C.fault("riv", 2, 0);
        C.fault("river 2 week 1;hour 1 2;", 2, 22);
        C.fault("river 2 week 1;hou r 1;", 2, 15);
        C.lines("river 2 week 1;walks:1=1and 1=1or 1=1;", 2);
        C.fault("river 2 week 1;walks:1=1 and1=1 orand 1=1;", 2, 32);
        C.lines("river 2 week 1;walks:not[1=1]or not not 1=1;", 2);
        C.fault("river 2 week 1;walks:notnot 1=1;", 2, 21);
        C.sentence(4, "N (1 to 3 digits)");
        C.due("1 digit", C.lines(HEAD + "hour 9;", 2).count(6), 9);
        C.due("2 digits", C.lines(HEAD + "hour 98;", 2).count(6), 98);
        C.due("3 digits", C.lines(HEAD + "hour 987;", 2).count(6), 987);
        C.due("noughts ahead", C.lines(HEAD + "hour 007;", 2).count(6), 7);
        C.due("noughts ahead of bounds", C.lines("river 002 week 006;", 1).count(1), 6);
        C.sentence(4, "1 no TOKEN begins so (4 digits and more: at their first)");
        C.fault(HEAD + "hour 1000;", 1, 20);
        C.fault(HEAD + "hour 0000;", 1, 20);
        C.fault(HEAD + "hour 0001;", 1, 20);
        C.fault(HEAD + "hour 12345678901234567890;", 1, 20);
        C.fault("river 0002 week 1;", 1, 6);
        C.fault("river 2 week 0001;", 1, 13);
        C.fault(WALKS + "1=1000;", 1, 23);
        C.fault(WALKS + "1=12a;", 2, 25);
        C.lines(HEAD + "hour 999 ;", 2);
        C.fault(HEAD + "hour 999 9;", 2, 24);
    }

    private static void faultsOfOneToken() {
        C.sentence(4, "of one TOKEN the least kind");
        C.fault(HEAD + "1234;", 1, 15);
        C.fault(HEAD + "999;", 2, 15);
        C.fault("river 2 week 9999;", 1, 13);
        C.fault("river 999 week 1;", 3, 6);
        C.fault("1000", 1, 0);
        C.fault("9", 2, 0);
        String five = HEAD + "person at 0 west;".repeat(5);
        C.fault(five + "hour person;", 2, 105);
        C.fault(five + "hour 1 person;", 2, 107);
        C.fault(WALKS + "((((((1(", 2, 28);
        C.fault(WALKS + "((((((1))))))(", 2, 34);
        C.fault(WALKS + "(((((([", 2, 27);
        C.fault(WALKS + "((((((not", 2, 27);
        C.fault(WALKS + "[[[[[[1+[", 2, 29);
        C.fault(WALKS + "[[[[[[1[", 2, 28);
        C.fault(WALKS + "[[[[[[1=1 not", 2, 31);
        C.fault(WALKS + "[[[[[[1=1 (", 2, 31);
        C.fault(WALKS + "[[[[[[1=not", 2, 29);
        C.fault(WALKS + "[[[[[[1=[", 2, 29);
        C.fault(WALKS + "[[[[[[9999", 1, 27);
        C.fault(WALKS + "[[[[[[1=(", 4, 29);
    }

    private static void firstFault() {
        C.sentence(4, "FAULTS, the first along the text");
        C.fault("river 9 week 9;#", 3, 6);
        C.fault("#river 9", 1, 0);
        C.fault("rover #", 2, 0);
        C.fault("river # 9 week 0;", 1, 6);
        C.fault("river 2 week 1;hour 1000;span 9 rest;", 1, 20);
        C.fault("river 2 week 1;span 9 rest;hour 1000;", 3, 20);
        C.fault("river 2 week 1;span 0 at 7 7", 3, 25);
        C.fault("river 2 week 1;walks:side;serves:side=1;", 2, 25);
        C.fault("river 2 week 1;" + "person at 0 west;".repeat(4) + "person at 2 west;person at 0 west;", 3, 93);
        C.fault("river 2 week 1;" + "person at 0 west;".repeat(6) + "#", 4, 100);
    }

    private static void theEnd() {
        C.sentence(4, "2 it can't stand there (the end: the text's length)");
        C.fault("", 2, 0);
        C.fault(" ", 2, 1);
        C.fault(" \n ", 2, 3);
        String whole = "river 2 week 1;span 0 at 1;person at 0 west load 3 to 1 east by 7;walks:not[gap+2*(hour-1)<3]and 1=1;";
        for (int cut = 0; cut < whole.length(); cut++) {
            char last = cut == 0 ? ' ' : whole.charAt(cut - 1);
            boolean inWord = Character.isLetter(last) && Character.isLetter(whole.charAt(cut));
            if (!inWord && last != ';') {
                C.fault(whole.substring(0, cut), 2, cut);
                C.fault(whole.substring(0, cut) + "  ", 2, cut + 2);
            } else if (last == ';') {
                C.lines(whole.substring(0, cut), (int) whole.substring(0, cut).chars().filter(c -> c == ';').count());
            }
        }
        C.lines(whole, 4);
        C.fault(HEAD + "hour 1", 2, 21);
        C.fault(HEAD + "hour 1 ", 2, 22);
        C.fault(HEAD + "hour 1\n\n", 2, 23);
    }

    private static void riverFirstAndOnce() {
        C.sentence(4, "river must be told first, and once");
        C.fault("hour 3;river 2 week 1;", 2, 0);
        C.fault("person at 0 west;", 2, 0);
        C.fault("week 1 river 2;", 2, 0);
        C.fault(";river 2 week 1;", 2, 0);
        C.fault("river 2 week 1;river 2 week 1;", 2, 15);
        C.fault("river 2 week 1;hour 1;river 3 week 1;", 2, 22);
        C.fault("river 2 week 1;river", 2, 15);
        C.sentence(4, "side in serves");
        C.fault(HEAD + "serves:side=1;", 2, 22);
        C.fault(HEAD + "serves:1=side;", 2, 24);
        C.fault(HEAD + "serves:1=1 or 1+side=1;", 2, 31);
        C.fault(HEAD + "walks:side=1;serves:(side)=1;", 2, 36);
        C.lines(HEAD + "serves:1=1;walks:side=1;", 3);
    }

    private static void depth() {
        C.sentence(4, "At most six of not [ ( within one another; 4 a seventh of not [ (");
        C.lines(WALKS + "((((((1))))))=1;", 2);
        C.fault(WALKS + "(((((((1)))))))=1;", 4, 27);
        C.lines(WALKS + "1=((((((1))))));", 2);
        C.fault(WALKS + "1=(((((((1)))))));", 4, 29);
        C.lines(WALKS + "1+1*((((((1))))))=1;", 2);
        C.fault(WALKS + "1+1*(((((((1)))))))=1;", 4, 31);
        C.lines(WALKS + "[[[[[[1=1]]]]]];", 2);
        C.fault(WALKS + "[[[[[[[1=1]]]]]]];", 4, 27);
        C.lines(WALKS + "not not not not not not 1=1;", 2);
        C.fault(WALKS + "not not not not not not not 1=1;", 4, 45);
        C.lines(WALKS + "not [not [(((1)))=1]];".replace("(((1)))", "((1))"), 2);
        C.fault(WALKS + "not [not [(((1)))=1]];", 4, 33);
        C.fault(WALKS + "[[[[[[not 1=1", 4, 27);
        C.fault(WALKS + "[[[[[[1=1 or not 1=1", 4, 34);
        C.fault(WALKS + "[[[[[[1=1 and [1=1", 4, 35);
        C.fault(WALKS + "not not not not not not [1=1", 4, 45);
        C.fault(WALKS + "not not not not not not (1", 4, 45);
        C.fault(WALKS + "[[[[[[1+(1", 4, 29);
        C.fault(WALKS + "[[[[[[1*(1", 4, 29);
        C.fault(HEAD + "serves:(((((((1", 4, 28);
        C.lines(HEAD + "serves:((((((1))))))=1;", 2);
        C.sentence(4, "six within one another, and again six beside them");
        C.lines(WALKS + "((((((1))))))+((((((1))))))*((((((1))))))=((((((1))))));", 2);
        C.lines(WALKS + "[[[[[[1=1]]]]]]and[[[[[[1=1]]]]]]or not not not not not not 1=1;", 2);
        C.lines(WALKS + "not not not not not not 1=1 and not not not not not not 1=1;", 2);
        C.lines(WALKS + "[[[[[1=1 and not 1=1 or (1)=(1)]]]]]and ((((((1))))))=1;", 2);
        C.lines(WALKS + "not ((((( 1 )))))=((((( 1 )))));", 2);
        C.fault(WALKS + "not 1=((((((1))))));", 4, 32);
        C.lines(WALKS + "not 1=1 and 1=((((((1))))));", 2);
    }

    private static boolean walks(String law) {
        MovedSpan x = Checks.river(HEAD + "person at 0 west;walks:" + law + ";");
        return x.why(0, 1) == 0;
    }

    private static void truths() {
        C.sentence(7, "TRUTH: BOTH { or BOTH }; BOTH: UNIT { and UNIT }; UNIT: not UNIT, [ TRUTH ], or SUM, one of = < >, SUM");
        for (int bits = 0; bits < 8; bits++) {
            boolean a = (bits & 1) != 0;
            boolean b = (bits & 2) != 0;
            boolean c = (bits & 4) != 0;
            String as = a ? "0=0" : "0=1";
            String bs = b ? "1<2" : "2<2";
            String cs = c ? "2>1" : "2>2";
            C.holds("or, and " + bits, walks(as + " or " + bs + " and " + cs) == (a || b && c));
            C.holds("and, or " + bits, walks(as + " and " + bs + " or " + cs) == (a && b || c));
            C.holds("[or], and " + bits, walks("[" + as + " or " + bs + "]and " + cs) == ((a || b) && c));
            C.holds("and [or] " + bits, walks(as + " and[" + bs + " or " + cs + "]") == (a && (b || c)));
            C.holds("not, and " + bits, walks("not " + as + " and " + bs + " and " + cs) == (!a && b && c));
            C.holds("and not, or not " + bits, walks(as + " and not " + bs + " or not " + cs) == (a && !b || !c));
            C.holds("not [or] " + bits, walks("not [" + as + " or " + bs + " or " + cs + "]") == !(a || b || c));
            C.holds("not not " + bits, walks("not not " + as + " and not not not " + bs) == (a && !b));
        }
        C.holds("below", walks("1<2") && !walks("2<2") && !walks("3<2"));
        C.holds("above", walks("3>2") && !walks("2>2") && !walks("1>2"));
        C.holds("equal", walks("2=2") && !walks("1=2") && !walks("3=2"));
        C.sentence(7, "SUM: TERM { + TERM | - TERM }; TERM: ATOM { * ATOM }");
        C.holds("from the left", walks("10-4-3=3") && walks("10-4+3=9") && walks("10-(4+3)=3"));
        C.holds("products ahead", walks("2+3*4=14") && walks("2*3+4=10") && walks("20-3*4=8") && walks("(2+3)*4=20"));
        C.holds("below 0", walks("3-5<0") && walks("3-5=0-2") && walks("(3-5)*(3-5)=4"));
    }

    private static void keptSums() {
        C.sentence(7, "each + - * kept from -1,000,000 to 1,000,000");
        String million = "(999+1)*(999+1)";
        String less = "999*(999+1)+999";
        C.holds("1,000,000 itself", walks(million + ">" + less) && walks(million + "-1=" + less));
        C.holds("1 more by +", walks(million + "+1=" + million) && walks("1+" + million + "=" + million));
        C.holds("1 more by -", walks(million + "-(0-1)=" + million));
        C.holds("more by *", walks("(999+2)*(999+1)=" + million));
        C.holds("-1,000,000 itself", walks("0-" + million + "<0-" + less.replace("+999", "-999")));
        C.holds("1 less by -", walks("0-" + million + "-1=0-" + million));
        C.holds("1 less by +", walks("0-" + million + "+(0-1)=0-" + million));
        C.holds("less by *", walks("(0-999-2)*(999+1)=0-" + million));
        C.holds("each by itself", walks(million + "+999-999=999*(999+1)+1") && walks("0-" + million + "-999+999=0-999*(999+1)-1"));
        C.holds("far above", walks(million + "*(" + million + ")=" + million));
        C.holds("far below", walks("(0-" + million + ")*(" + million + ")=0-" + million));
        C.holds("below by below", walks("(0-" + million + ")*(0-" + million + ")=" + million));
        C.holds("and back to 0", walks(million + "*999*0=0") && walks(million + "+999-(" + million + ")=0"));
    }

    private static void lawAtoms() {
        C.sentence(7, "gap: that of the PERSON, hour: HOUR modulo the WEEK, who: its number, load, fog, side");
        String people = "person at 3 east load 99;person at 0 west;person at 1 west;person at 2 east;person at 3 west load 1;";
        MovedSpan x = Checks.river("river 4 week 6;hour 999;" + people + "walks:gap*100+hour*10+who=330 and load=99 and side=1 and fog=0;");
        C.due("gap 3, hour 999 modulo 6, who 0, load 99, side 1, no fog", x.why(0, 2), 0);
        x.fog(1);
        C.due("in fog", x.why(0, 2), 3);
        x.fog(0);
        x.hours(1);
        C.due("another hour", x.why(0, 2), 3);
        x.hours(5);
        C.due("a week later", x.why(0, 2), 0);
        MovedSpan y = Checks.river("river 4 week 6;hour 5;" + people + "walks:gap=3 and hour=5 and who=4 and load=1 and side=0 or gap=0 and who=1 and load=0;");
        C.due("who 4", y.why(4, 2), 0);
        C.due("who 1", y.why(1, 1), 0);
        C.due("others", y.why(0, 2) * 100 + y.why(2, 1) * 10 + y.why(3, 1), 333);
        y.hours(1);
        C.due("hour 6 is 0", y.why(4, 2), 3);
        C.sentence(7, "side: 0 west, 1 east, at each gap");
        for (int gap = 0; gap < 4; gap++) {
            int act = gap == 3 ? 2 : 1;
            MovedSpan sides = Checks.river("river 4 week 1;person at " + gap + " west;person at " + gap + " east;walks:side=who and gap=" + gap + ";");
            C.due("each on its side of gap " + gap, sides.why(0, act) + sides.why(1, act), 0);
            sides = Checks.river("river 4 week 1;person at " + gap + " east;person at " + gap + " west;walks:side=who;");
            C.due("each on the other side of gap " + gap, sides.why(0, act) * 10 + sides.why(1, act), 33);
        }
        C.sentence(7, "gap: of THE SPAN, for who is on it");
        MovedSpan z = Checks.river("river 4 week 2;span 0 at 0;span 1 at 3;person at 0 west;serves:gap=0 or gap=3 and fog=1;");
        z.act(0, 4);
        z.hours(1);
        C.due("off at gap 3", z.why(0, 6), 3);
        z.fog(1);
        C.due("off at gap 3 in fog", z.why(0, 6), 0);
        z.hours(1);
        C.due("off at gap 0", z.why(0, 5), 0);
        C.sentence(7, "walks holds (without one: always), serves holds (without one: if no FOG is)");
        MovedSpan w = Checks.river(HEAD + "person at 0 west;");
        C.due("walks", w.why(0, 1), 0);
        C.due("serves", w.why(0, 3) + w.why(0, 4), 0);
        w.fog(1);
        C.due("walks in fog", w.why(0, 1), 0);
        C.due("serves in fog", w.why(0, 3) * 10 + w.why(0, 4), 33);
    }

    private static void fault() {
        C.sentence(4, "its FAULT (0), its place (NONE)");
        MovedSpan x = new MovedSpan();
        C.due("ahead of any river", x.fault(0), 0);
        C.due("ahead of any river", x.fault(1), NONE);
        C.sentence(4, "Of the latest river() that was read");
        Checks.tell(x, "river 2 week 9;");
        C.due("kind", x.fault(0), 3);
        C.due("place", x.fault(1), 13);
        Checks.feed(x, HEAD);
        x.river(-1);
        x.river(21);
        C.due("kind stays", x.fault(0), 3);
        C.due("place stays", x.fault(1), 13);
        x.image(0);
        x.river(15);
        C.due("no fault", x.fault(0), 0);
        C.due("no place", x.fault(1), NONE);
        Checks.tell(x, "#");
        x.restore(0);
        C.due("an image has none", x.fault(0) * 10 + x.fault(1), 10);
        C.sentence(4, "NONE for others.");
        C.due("-1", x.fault(-1), NONE);
        C.due("2", x.fault(2), NONE);
        for (int what : FAR) {
            C.due("fault(" + what + ")", x.fault(what), NONE);
        }
    }

    private static void span() {
        C.sentence(5, "The GAP where THE SPAN lies in n HOURS (0 to 999). NONE: it RESTS; -3.");
        MovedSpan x = Checks.river("river 4 week 6;span 0 at 3;span 1 at 1;span 2 rest;span 3 at 2;span 4 at 0;span 5 at 1;hour 5;");
        int[] week = {3, 1, NONE, 2, 0, 1};
        for (int n : new int[] {0, 1, 2, 3, 4, 5, 6, 7, 500, 994, 998, 999}) {
            C.due("span(" + n + ")", x.span(n), week[(5 + n) % 6]);
        }
        C.due("-1", x.span(-1), -3);
        C.due("1000", x.span(1000), -3);
        for (int n : FAR) {
            C.due("span(" + n + ")", x.span(n), -3);
        }
        C.sentence(5, "HOUR modulo how many it has");
        x.hours(1);
        C.due("round to hour 0", x.span(0), 3);
        x.hours(48);
        x.hours(48);
        C.due("weeks later", x.span(0), 3);
        x.hours(47);
        C.due("an hour ahead of hour 0", x.span(0), 1);
        MovedSpan late = Checks.river("river 2 week 6;span 3 at 1;hour 999;");
        C.due("hour 999 is 3", late.span(0), 1);
        C.due("hour 1998 is 0", late.span(999), 0);
        C.due("hour 1995 is 3", late.span(996), 1);
    }

    private static void person() {
        C.sentence(6, "what 0: its SPOT .. 5: the ACT it was told. -2.");
        MovedSpan x = Checks.river("river 4 week 1;person at 0 west;" + "person at 1 west;".repeat(3) + "person at 3 east load 99 to 3 east by 999;");
        int[] last = {7, 99, 7, 999, 1, 0};
        int[] first = {0, 0, NONE, NONE, 0, 0};
        for (int what = 0; what < 6; what++) {
            C.due("person(4, " + what + ")", x.person(4, what), last[what]);
            C.due("person(0, " + what + ")", x.person(0, what), first[what]);
        }
        C.due("person(0, -1)", x.person(0, -1), -2);
        C.due("person(0, 6)", x.person(0, 6), -2);
        C.due("person(-1, 0)", x.person(-1, 0), -2);
        C.due("person(5, 0)", x.person(5, 0), -2);
        C.due("person(5, 6)", x.person(5, 6), -2);
        for (int far : FAR) {
            C.due("person(" + far + ", 0)", x.person(far, 0), -2);
            C.due("person(0, " + far + ")", x.person(0, far), -2);
        }
        x.act(0, 4);
        C.due("the act told", x.person(0, 5), 4);
        x.hours(1);
        C.due("on the span: 8", x.person(0, 0), 8);
        C.due("told no more", x.person(0, 5), 0);
        C.due("nobody", new MovedSpan().person(0, 0), -2);
    }

    private static void why() {
        C.sentence(7, "1 no such PERSON, ACT");
        MovedSpan x = Checks.river("river 3 week 1;person at 0 west;person at 2 east;person at 1 west;walks:1=2;serves:1=2;");
        C.due("why(-1, 0)", x.why(-1, 0), 1);
        C.due("why(3, 0)", x.why(3, 0), 1);
        C.due("why(0, -1)", x.why(0, -1), 1);
        C.due("why(0, 7)", x.why(0, 7), 1);
        for (int far : FAR) {
            C.due("why(" + far + ", 0)", x.why(far, 0), 1);
            C.due("why(0, " + far + ")", x.why(0, far), 1);
        }
        C.sentence(7, "2 there is no next GAP");
        C.due("up at the last gap, ahead of the law", x.why(1, 1), 2);
        C.due("down at the first gap", x.why(0, 2), 2);
        C.due("up at the first gap", x.why(0, 1), 3);
        C.due("down at the last gap", x.why(1, 2), 3);
        C.due("both at the one between", x.why(2, 1) * 10 + x.why(2, 2), 33);
        MovedSpan ends = Checks.river("river 3 week 1;person at 0 west;person at 0 east;person at 2 west;person at 2 east;walks:1=2;");
        C.due("down at the first gap, on both sides", ends.why(0, 2) * 10 + ends.why(1, 2), 22);
        C.due("up at the last gap, on both sides", ends.why(2, 1) * 10 + ends.why(3, 1), 22);
        for (int gaps = 2; gaps <= 4; gaps++) {
            MovedSpan y = Checks.river("river " + gaps + " week 1;person at " + (gaps - 1) + " west;person at " + (gaps - 2) + " east;");
            C.due("no next of " + gaps, y.why(0, 1), 2);
            C.due("one next of " + gaps, y.why(1, 1), 0);
            C.due("down from the last of " + gaps, y.why(0, 2), 0);
        }
        C.sentence(7, "2 THE SPAN lies elsewhere or RESTS, it is on it (1 to 4), it isn't (5, 6); 3 the law");
        int[] atIt = {0, 3, 2, 3, 3, 2, 2};
        int[] elsewhere = {0, 2, 3, 2, 2, 2, 2};
        for (int act = 0; act < 7; act++) {
            C.due("at it, act " + act, x.why(0, act), atIt[act]);
            C.due("elsewhere, act " + act, x.why(1, act), elsewhere[act]);
        }
        x.tell(0, NONE);
        C.due("it rests", x.why(0, 3) * 10 + x.why(0, 4), 22);
        MovedSpan on = Checks.river("river 2 week 3;span 1 rest;person at 0 west;serves:hour=0;");
        on.act(0, 4);
        on.hours(1);
        int[] resting = {0, 2, 2, 2, 2, 2, 2};
        int[] unlawful = {0, 2, 2, 2, 2, 3, 3};
        int[] lawful = {0, 2, 2, 2, 2, 0, 0};
        for (int act = 0; act < 7; act++) {
            C.due("on it, resting, act " + act, on.why(0, act), resting[act]);
        }
        on.hours(1);
        for (int act = 0; act < 7; act++) {
            C.due("on it, hour 2, act " + act, on.why(0, act), unlawful[act]);
        }
        on.hours(1);
        for (int act = 0; act < 7; act++) {
            C.due("on it, hour 3, act " + act, on.why(0, act), lawful[act]);
        }
    }
}
