/** Seen, and chances, sentence by sentence: what names a boundary, at it and beside it. Promises 30 to 34. */
public final class BoundsSeenTest {
    private static final Checks C = new Checks();
    private static final int NONE = MovedSpan.NONE;
    private static final int[] FAR = {Integer.MIN_VALUE, Integer.MIN_VALUE + 1, -1000, 1000000, Integer.MAX_VALUE};
    private static final String RESTS = "span 0 rest;span 1 rest;span 2 rest;span 3 rest;span 4 rest;span 5 rest;";

    public static void main(String[] args) {
        refusedOnes();
        howMany();
        noSpots();
        fits();
        seenFirst();
        roundTheWeek();
        surest();
        odd();
        chance();
        chanceOfFogs();
        likely();
        C.end("BoundsSeenTest");
    }

    /** The three calls that are refused alike; fits has an hour more. */
    private static void allThree(String what, MovedSpan x, int tray, int p, int due) {
        C.due("fits, " + what, x.fits(tray, p, 0), due);
        C.due("surest, " + what, x.surest(tray, p), due);
        C.due("odd, " + what, x.odd(tray, p), due);
    }

    private static void refusedOnes() {
        C.sentence(30, "-2: the TRAY, the PERSON, the HOUR; -6");
        MovedSpan x = Checks.river("river 3 week 2;person at 0 west;person at 2 east;");
        allThree("tray -1", x, -1, 0, -2);
        allThree("tray 4", x, 4, 0, -2);
        allThree("person -1", x, 0, -1, -2);
        allThree("person 2", x, 0, 2, -2);
        for (int far : FAR) {
            allThree("tray " + far, x, far, 0, -2);
            allThree("person " + far, x, 0, far, -2);
            C.due("hour " + far, x.fits(0, 0, far), -2);
        }
        C.due("hour -1", x.fits(0, 0, -1), -2);
        C.due("hour 2", x.fits(0, 0, 2), -2);
        allThree("missing", x, 0, 1, -6);
        allThree("missing", x, 3, 0, -6);
        C.due("missing, the last hour", x.fits(0, 0, 1), -6);
        allThree("nobody", new MovedSpan(), 0, 0, -2);
        C.sentence(30, "Of several that which the call tells first");
        Checks.fill(x, 1, new int[13]);
        x.write(1, 0, 77);
        allThree("13 numbers, one of which can't be", x, 1, 0, -4);
        allThree("13 numbers, and no such person", x, 1, 2, -2);
        C.due("13 numbers, and no such hour", x.fits(1, 0, 2), -2);
    }

    private static void howMany() {
        C.sentence(30, "-4: not 1 to 12 numbers");
        MovedSpan x = Checks.river("river 2 week 1;person at 0 west;");
        for (int n : new int[] {0, 13, 14, 40}) {
            x.numbers(0, 0, n);
            allThree(n + " numbers", x, 0, 0, -4);
        }
        x.numbers(0, 0, 1);
        C.due("1 number fits anyhow", x.fits(0, 0, 0), 19);
        C.due("1 number is never odd", x.odd(0, 0), NONE);
        C.due("1 number, hour 0", x.surest(0, 0), 0);
        x.numbers(0, 0, 12);
        C.due("12 numbers", x.fits(0, 0, 0), 19);
        x.write(0, 11, 2);
        C.due("the 12th", x.fits(0, 0, 0), 19);
        x.write(0, 10, 1);
        C.due("the 11th in the east, the 12th in the west of the next gap", x.fits(0, 0, 0), 0);
        C.due("the first that can't be", x.odd(0, 0), 11);
    }

    private static void noSpots() {
        C.sentence(30, "-3: one is no SPOT, nor NONE");
        for (int gaps = 2; gaps <= 4; gaps++) {
            MovedSpan x = Checks.river("river " + gaps + " week 1;person at 0 west;");
            x.numbers(2, 1, 1);
            for (int v = -4; v < 14; v++) {
                x.write(2, 0, v);
                boolean is = v >= -1 && v < 2 * gaps || v == 8;
                C.due("fits of " + v + " of " + gaps + " gaps", x.fits(2, 0, 0), is ? (1 << gaps) - 1 | 16 : -3);
                C.due("surest of " + v, x.surest(2, 0), is ? 0 : -3);
                C.due("odd of " + v, x.odd(2, 0), is ? NONE : -3);
            }
            x.numbers(2, 3, 12);
            long[] strange = {1L << 32, (1L << 32) - 1, (1L << 32) + 8, -1L << 32, Long.MIN_VALUE, Long.MAX_VALUE, Integer.MAX_VALUE};
            for (long v : strange) {
                x.write(2, 11, v);
                allThree("" + v, x, 2, 0, -3);
            }
            x.write(2, 11, -1);
            C.due("NONE of 64 bits", x.odd(2, 0), NONE);
            x.write(2, 1, 1);
            x.write(2, 11, 99);
            allThree("the last can't be, ahead of what is odd", x, 2, 0, -3);
        }
    }

    private static void fits() {
        C.sentence(30, "GAPS (and RESTING, as bit 4) where THE SPAN may have lain in one HOUR of the WEEK, all others as told");
        for (int gaps = 2; gaps <= 4; gaps++) {
            MovedSpan x = Checks.river("river " + gaps + " week 6;" + RESTS + "person at 0 west;walks:1=2;");
            Checks.fill(x, 0, NONE);
            C.due("anywhere, " + gaps, x.fits(0, 0, 5), (1 << gaps) - 1 | 16);
            int last = 2 * gaps - 1;
            Checks.fill(x, 0, last, last - 1);
            C.due("crossed at the last gap in hour 0", x.fits(0, 0, 0), 1 << gaps - 1);
            C.due("not by hour 1", x.fits(0, 0, 1), 0);
            Checks.fill(x, 0, NONE, NONE, NONE, NONE, NONE, 8, 0);
            C.due("off at gap 0 in hour 5", x.fits(0, 0, 5), 1);
            C.due("not by hour 4", x.fits(0, 0, 4), 0);
            C.due("the week stays", x.span(5), NONE);
        }
        C.sentence(30, "so that some ACTS lead by all these SPOTS (FOG as it is)");
        MovedSpan x = Checks.river("river 3 week 2;span 0 at 0;span 1 at 2;person at 0 west;walks:1=2;");
        Checks.fill(x, 0, 0, 8, 5, 5, 5);
        C.due("on at 0", x.fits(0, 0, 0), 1);
        C.due("off at 2", x.fits(0, 0, 1), 4);
        x.fog(1);
        C.due("fog in the first hour", x.fits(0, 0, 0) + x.fits(0, 0, 1), 0);
        x.fog(0);
        x.hours(1);
        C.due("from hour 1 on: on at 0 in hour 1, off at 2 in hour 0: two hours", x.fits(0, 0, 0) + x.fits(0, 0, 1), 0);
    }

    private static void seenFirst() {
        C.sentence(30, "from wherever it was seen first");
        MovedSpan x = Checks.river("river 2 week 1;span 0 rest;person at 0 west;walks:1=2;");
        for (int spot : new int[] {0, 1, 2, 3, 8}) {
            Checks.fill(x, 0, spot, spot);
            C.due("at " + spot + ", wherever it is now", x.fits(0, 0, 0), 19);
            Checks.fill(x, 0, NONE, NONE, spot, NONE, spot);
            C.due("first seen at " + spot, x.odd(0, 0), NONE);
        }
        Checks.fill(x, 0, NONE, NONE, 0, 1);
        C.due("first seen in hour 2, then over", x.odd(0, 0), 3);
        C.due("the span at gap 0", x.fits(0, 0, 0), 1);
        x.numbers(0, 0, 12);
        for (int i = 0; i < 12; i++) {
            x.write(0, i, NONE);
        }
        C.due("never seen", x.fits(0, 0, 0), 19);
        C.due("never seen", x.odd(0, 0), NONE);
        C.due("never seen", x.surest(0, 0), 0);
    }

    private static void roundTheWeek() {
        C.sentence(30, "in this HOUR, the next and so on: hours that go round the week");
        MovedSpan x = Checks.river("river 4 week 6;" + RESTS + "hour 5;person at 0 west;walks:1=2;");
        Checks.fill(x, 0, 6, 7, 7, 7, 7, 7, 7, 6);
        C.due("over in hours 5 and 11", x.fits(0, 0, 5), 8);
        Checks.fill(x, 0, 6, 7, 6);
        C.due("over in hours 5 and 6", x.fits(0, 0, 5) + x.fits(0, 0, 0), 0);
        x.tell(5, 3);
        C.due("hour 6 is 0", x.fits(0, 0, 0), 8);
        C.due("hour 1 doesn't matter, nor do", x.fits(0, 0, 1), 0);
        Checks.fill(x, 0, NONE, NONE, NONE, NONE, NONE, NONE, NONE, NONE, NONE, NONE, 0, 1);
        C.due("the 11th number is in hour 15: 3", x.fits(0, 0, 3), 1);
        C.due("not in hour 4", x.fits(0, 0, 4), 0);
        C.due("surest", x.surest(0, 0), 3);
        x.fog(11);
        C.due("fog in the 11th hour", x.fits(0, 0, 3), 0);
        x.fog(10);
        C.due("fog ahead of it", x.fits(0, 0, 3), 1);
        x.fog(0);
        x.hours(1);
        C.due("an hour later it is hour 4", x.fits(0, 0, 4), 1);
    }

    private static void surest() {
        C.sentence(31, "The HOUR of the WEEK of which fewest GAPS fit (at least one), the first. NONE: none fits in any");
        MovedSpan x = Checks.river("river 4 week 6;" + RESTS + "person at 0 west;walks:1=2;");
        for (int h = 0; h < 6; h++) {
            int[] seen = new int[h + 2];
            seen[h + 1] = 1;
            Checks.fill(x, 0, seen);
            C.due("over in hour " + h, x.surest(0, 0), h);
        }
        Checks.fill(x, 0, 0, NONE, NONE, NONE, NONE, NONE, 1);
        C.due("over in any hour: the first", x.surest(0, 0), 0);
        Checks.fill(x, 0, 0, 2);
        C.due("none", x.surest(0, 0), NONE);
        Checks.fill(x, 0, 0, 0);
        C.due("all fit: the first", x.surest(0, 0), 0);
        MovedSpan y = Checks.river("river 2 week 2;span 0 at 0;span 1 rest;person at 0 west;");
        Checks.fill(y, 0, 0, 2, 3);
        C.due("hour 0: none fits, hour 1: one does", y.fits(0, 0, 0) * 100 + y.fits(0, 0, 1), 2);
        C.due("at least one", y.surest(0, 0), 1);
        MovedSpan one = Checks.river("river 2 week 1;span 0 rest;person at 0 west;");
        Checks.fill(one, 0, 0, NONE, 1);
        C.due("over at gap 0, in either hour", one.fits(0, 0, 0), 1);
        C.due("a week of 1", one.surest(0, 0), 0);
        Checks.fill(one, 0, 0, 3);
        C.due("a week of 1, none", one.surest(0, 0), NONE);
    }

    private static void odd() {
        C.sentence(32, "The first place that can't be, behind those ahead, as the WEEK is. NONE: all can");
        MovedSpan x = Checks.river("river 4 week 2;span 1 rest;person at 3 east;person at 3 east;walks:who=0;");
        for (int at = 1; at < 12; at++) {
            int[] seen = new int[12];
            for (int i = at; i < 12; i++) {
                seen[i] = 6;
            }
            Checks.fill(x, 0, seen);
            C.due("from 0 to 6 at place " + at, x.odd(0, 0), at);
        }
        Checks.fill(x, 0, 0, 2, 4, 6, 4, 2, 0, 0, 0, 1, 0, 0);
        C.due("crosses in hour 8, can't in hour 9", x.odd(0, 0), 10);
        Checks.fill(x, 0, 0, 2, 4, 6, 4, 2, 0, 0, 0, 1, 1, 0);
        C.due("crosses in hour 8 and in hour 10", x.odd(0, 0), NONE);
        C.due("who 1 doesn't walk", x.odd(0, 1), 1);
        Checks.fill(x, 0, 0, NONE, NONE, 6);
        C.due("three hours not seen between", x.odd(0, 0), NONE);
        C.due("by who doesn't walk", x.odd(0, 1), 3);
        Checks.fill(x, 0, 0, NONE, 6, 5);
        C.due("the first of two", x.odd(0, 0), 2);
        x.tell(1, 3);
        Checks.fill(x, 0, 0, 8, 7);
        C.due("a ride, as the week is told now", x.odd(0, 1), NONE);
        x.tell(1, NONE);
        C.due("it rests", x.odd(0, 1), 2);
    }

    private static void chance() {
        C.sentence(33, "-2: the PERSON, the SPOT, what; -3: n");
        MovedSpan x = Checks.river("river 2 week 1;foggy 3;person at 0 west;person at 1 east;walks:1=2;");
        int[][] bad = {{-1, 0, 0, 0}, {2, 0, 0, 0}, {0, -1, 0, 0}, {0, 4, 0, 0}, {0, 7, 0, 0}, {0, 9, 0, 0}, {0, 0, 0, -1}, {0, 0, 0, 2},
            {2, 0, 10, 0}, {0, 4, -1, 0}, {0, 0, 10, 2}, {Integer.MIN_VALUE, 0, 0, 0}, {0, Integer.MAX_VALUE, 0, 0}, {0, 0, 0, Integer.MAX_VALUE}};
        for (int[] b : bad) {
            C.due("chance(" + b[0] + ", " + b[1] + ", " + b[2] + ", " + b[3] + ")", x.chance(b[0], b[1], b[2], b[3]), -2);
        }
        C.due("-1", x.chance(0, 1, -1, 0), -3);
        C.due("10", x.chance(0, 1, 10, 1), -3);
        for (int far : FAR) {
            C.due("n " + far, x.chance(0, 1, far, 0), -3);
        }
        C.due("nobody", new MovedSpan().chance(0, 0, 0, 0), -2);
        C.sentence(33, "within n HOURS (0 to 9): how likely that is, in lowest terms");
        C.due("there, within 0", x.chance(0, 0, 0, 0) * 10 + x.chance(0, 0, 0, 1), 11);
        C.due("there, within 9", x.chance(0, 0, 9, 0) * 10 + x.chance(0, 0, 9, 1), 11);
        C.due("elsewhere, within 0", x.chance(0, 1, 0, 0) * 10 + x.chance(0, 1, 0, 1), 1);
        C.due("never, within 9", x.chance(0, 2, 9, 0) * 10 + x.chance(0, 2, 9, 1), 1);
        long below = 1;
        long fogs = 1;
        for (int n = 1; n <= 9; n++) {
            below *= 10;
            fogs *= 3;
            C.due("above, within " + n, x.chance(0, 1, n, 0), below - fogs);
            C.due("below, within " + n, x.chance(0, 1, n, 1), below);
            C.due("on the span", x.chance(0, 8, n, 0), below - fogs);
        }
        MovedSpan half = Checks.river("river 2 week 1;foggy 5;person at 0 west;walks:1=2;");
        C.due("511 in 512", half.chance(0, 1, 9, 0) * 1000 + half.chance(0, 1, 9, 1), 511512);
        MovedSpan four = Checks.river("river 2 week 1;foggy 4;person at 0 west;walks:1=2;");
        C.due("3 in 5", four.chance(0, 1, 1, 0) * 10 + four.chance(0, 1, 1, 1), 35);
        C.due("21 in 25", four.chance(0, 1, 2, 0) * 100 + four.chance(0, 1, 2, 1), 2125);
        C.due("within 9, below: 5 to the 9th", four.chance(0, 1, 9, 1), 1953125);
        C.due("within 9, above: less 2 to the 9th", four.chance(0, 1, 9, 0), 1953125 - 512);
    }

    private static void chanceOfFogs() {
        C.sentence(33, "it FOGS in each HOUR, this one too, as likely as foggy tells, each by itself (FOG as it is aside)");
        for (int foggy : new int[] {0, 10}) {
            MovedSpan x = Checks.river("river 2 week 1;foggy " + foggy + ";person at 0 west;person at 0 west;walks:1=2;serves:who=fog;");
            C.due("who crosses in clear hours, foggy " + foggy, x.chance(0, 1, 1, 0), foggy == 0 ? 1 : 0);
            C.due("who crosses in fog, foggy " + foggy, x.chance(1, 1, 9, 0), foggy == 0 ? 0 : 1);
            x.fog(99);
            C.due("fog aside", x.chance(0, 1, 1, 0), foggy == 0 ? 1 : 0);
            C.due("fog aside", x.chance(1, 1, 9, 1), 1);
        }
        C.sentence(33, "which shows ahead of the ACTS of that HOUR; at a SPOT once within n HOURS");
        // In fog it crosses at gap 0 at once; else it walks on to cross at gap 1, where no fog may be.
        MovedSpan y = Checks.river("river 2 week 2;span 1 at 1;foggy 2;person at 0 west;serves:gap=0 and fog=1 or gap=1 and fog=0;");
        C.due("1/5 and then surely, 4/5 of 4/5: 21 in 25", y.chance(0, 3, 2, 0) * 100 + y.chance(0, 3, 2, 1), 2125);
        MovedSpan round = Checks.river("river 2 week 6;" + RESTS + "span 2 at 0;foggy 5;person at 0 west;walks:1=2;hour 6;");
        C.due("within 2", round.chance(0, 1, 2, 0), 0);
        C.due("within 3", round.chance(0, 1, 3, 0) * 10 + round.chance(0, 1, 3, 1), 12);
        C.due("within 8", round.chance(0, 1, 8, 0) * 10 + round.chance(0, 1, 8, 1), 12);
        C.due("within 9, the week gone round", round.chance(0, 1, 9, 0) * 10 + round.chance(0, 1, 9, 1), 34);
        MovedSpan once = Checks.river("river 2 week 2;span 1 rest;foggy 0;person at 0 west;walks:1=2;");
        C.due("once is enough", once.chance(0, 8, 9, 0), 1);
        once.act(0, 4);
        once.hours(1);
        C.due("from the span, resting", once.chance(0, 0, 1, 0), 0);
        C.due("from the span, an hour later", once.chance(0, 0, 2, 0), 1);
    }

    private static void likely() {
        C.sentence(34, "-2; -3");
        MovedSpan x = Checks.river("river 2 week 1;foggy 3;person at 0 west;walks:1=2;");
        int[][] bad = {{-1, 0, 0}, {1, 0, 0}, {0, -1, 0}, {0, 4, 0}, {0, 9, 0}, {1, 0, 101}, {0, 4, -1}, {Integer.MAX_VALUE, 0, 0}, {0, Integer.MIN_VALUE, 0}};
        for (int[] b : bad) {
            C.due("likely(" + b[0] + ", " + b[1] + ", " + b[2] + ")", x.likely(b[0], b[1], b[2]), -2);
        }
        C.due("-1", x.likely(0, 1, -1), -3);
        C.due("101", x.likely(0, 1, 101), -3);
        for (int far : FAR) {
            C.due("m " + far, x.likely(0, 1, far), -3);
        }
        C.due("nobody", new MovedSpan().likely(0, 0, 0), -2);
        C.sentence(34, "m in 100 (0 to 100) at least");
        int[][] mHours = {{0, 0}, {1, 1}, {69, 1}, {70, 1}, {71, 2}, {91, 2}, {92, 3}, {97, 3}, {98, 4}, {99, 4}, {100, NONE}};
        for (int[] one : mHours) {
            C.due(one[0] + " in 100", x.likely(0, 1, one[0]), one[1]);
        }
        C.due("0 in 100, though never", x.likely(0, 2, 0), 0);
        C.due("1 in 100, never", x.likely(0, 2, 1), NONE);
        C.due("100 in 100, it is there", x.likely(0, 0, 100), 0);
        C.sentence(34, "The fewest HOURS (0 to 9). NONE: none are");
        MovedSpan round = Checks.river("river 2 week 6;" + RESTS + "span 2 at 0;foggy 5;person at 0 west;walks:1=2;");
        int[][] rounds = {{1, 3}, {50, 3}, {51, 9}, {75, 9}, {76, NONE}};
        for (int[] one : rounds) {
            C.due(one[0] + " in 100", round.likely(0, 1, one[0]), one[1]);
        }
        round.hours(3);
        C.due("in 6, behind hour 3", round.likely(0, 1, 50), 6);
        C.due("75 would be in 12", round.likely(0, 1, 75), NONE);
        round.hours(2);
        C.due("in 4, behind hour 5", round.likely(0, 1, 50), 4);
        C.due("75 would be in 10", round.likely(0, 1, 75), NONE);
        round.hours(1);
        C.due("75 is in 9, behind hour 6", round.likely(0, 1, 75), 9);
        MovedSpan sure = Checks.river("river 2 week 6;" + RESTS + "span 2 at 0;person at 0 west;walks:1=2;hour 0;");
        C.due("sure in 3", sure.likely(0, 1, 100), 3);
        sure.hours(3);
        C.due("sure in 6", sure.likely(0, 1, 100), 6);
    }
}
