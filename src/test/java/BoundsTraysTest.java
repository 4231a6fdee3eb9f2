/** Trays and images, and what is counted, sentence by sentence: at a boundary and beside it. Promises 35 to 40. */
public final class BoundsTraysTest {
    private static final Checks C = new Checks();
    private static final int NONE = MovedSpan.NONE;
    private static final int[] FAR = {Integer.MIN_VALUE, Integer.MIN_VALUE + 1, -1000, 1000000, Integer.MAX_VALUE};

    public static void main(String[] args) {
        numbers();
        allNought();
        write();
        cut();
        lists();
        listsAsFar();
        listsOfEverybody();
        image();
        restore();
        imageOfAll();
        count();
        countBits();
        C.end("BoundsTraysTest");
    }

    private static void numbers() {
        C.sentence(35, "-2: no such TRAY, sort; -3: n is below 0 or above 40");
        MovedSpan x = new MovedSpan();
        C.due("tray -1", x.numbers(-1, 0, 1), -2);
        C.due("tray 4", x.numbers(4, 0, 1), -2);
        C.due("sort -1", x.numbers(0, -1, 1), -2);
        C.due("sort 4", x.numbers(0, 4, 1), -2);
        C.due("n -1", x.numbers(0, 0, -1), -3);
        C.due("n 41", x.numbers(0, 0, 41), -3);
        C.due("tray, ahead of n", x.numbers(4, 0, 41), -2);
        C.due("sort, ahead of n", x.numbers(0, 4, -1), -2);
        for (int far : FAR) {
            C.due("tray " + far, x.numbers(far, 0, 1), -2);
            C.due("sort " + far, x.numbers(0, far, 1), -2);
            C.due("n " + far, x.numbers(0, 0, far), -3);
        }
        C.sentence(35, "TRAYS 0 to 3 are MISSING at first");
        for (int t = 0; t < 4; t++) {
            C.due("write", x.write(t, 0, 1), -6);
            C.due("perform", x.perform(t), -6);
        }
        C.sentence(35, "or have 0 to 40 numbers of 8 bits (sort 0), 16 (1), 32 (2), 64 (3)");
        for (int t = 0; t < 4; t++) {
            for (int sort = 0; sort < 4; sort++) {
                C.due("0 numbers", x.numbers(t, sort, 0), 0);
                C.due("it has none", x.write(t, 0, 1), -7);
                C.due("it is there", x.perform(t), 0);
                C.due("1 number", x.numbers(t, sort, 1), 0);
                C.due("the one", x.write(t, 0, 1), 1);
                C.due("no other", x.write(t, 1, 1), -7);
                C.due("40 numbers", x.numbers(t, sort, 40), 0);
                C.due("the last one", x.write(t, 39, -1), -1);
                C.due("no other", x.write(t, 40, 1), -7);
            }
        }
        C.sentence(35, "-3, and the TRAY stays");
        x.numbers(1, 1, 2);
        x.write(1, 0, -1);
        x.write(1, 1, -1);
        x.numbers(1, 0, 41);
        x.numbers(1, 3, -1);
        C.due("its numbers", x.judge(1, 3), 2);
        C.due("its sort", x.write(1, 1, 0x12345), 0x2345);
        C.due("its size", x.write(1, 2, 1), -7);
        x.numbers(1, 4, 3);
        x.numbers(1, -1, 0);
        C.due("its size, sort refused", x.write(1, 2, 1), -7);
    }

    private static void allNought() {
        C.sentence(35, "all 0 (in place of another one): 0");
        MovedSpan x = Checks.river("river 2 week 1;person at 0 west;");
        x.numbers(0, 2, 40);
        C.due("all 0: person 0 stays", x.judge(0, 0), NONE);
        for (int i = 0; i < 40; i++) {
            x.write(0, i, NONE);
        }
        C.due("40 hours", x.judge(0, 3), 40);
        C.due("another one", x.numbers(0, 2, 40), 0);
        C.due("all 0 again", x.judge(0, 3), 0);
        x.write(0, 39, NONE);
        x.numbers(0, 2, 1);
        x.numbers(0, 2, 40);
        C.due("smaller, and larger again", x.judge(0, 3), 0);
        C.due("the others stay", x.perform(1), -6);
        x.numbers(0, 0, 1);
        C.due("another sort", x.write(0, 0, 300), 44);
    }

    private static void write() {
        C.sentence(36, "-2: no such TRAY; -6; -7");
        MovedSpan x = new MovedSpan();
        C.due("tray -1", x.write(-1, 0, 1), -2);
        C.due("tray 4", x.write(4, 0, 1), -2);
        C.due("tray, ahead of the number", x.write(4, -1, 1), -2);
        C.due("missing, ahead of the number", x.write(0, -1, 1), -6);
        for (int far : FAR) {
            C.due("tray " + far, x.write(far, 0, 1), -2);
        }
        x.numbers(0, 0, 3);
        C.due("-1", x.write(0, -1, 1), -7);
        C.due("0", x.write(0, 0, 7), 7);
        C.due("2", x.write(0, 2, 8), 8);
        C.due("3", x.write(0, 3, 1), -7);
        for (int far : FAR) {
            C.due("number " + far, x.write(0, far, 1), -7);
        }
    }

    private static void cut() {
        C.sentence(36, "v, cut to its sort: as it is there");
        MovedSpan x = new MovedSpan();
        for (int sort = 0; sort < 4; sort++) {
            x.numbers(sort, sort, 1);
        }
        long[][] cuts = {{0, 0, 0}, {0, 127, 127}, {0, 128, -128}, {0, -128, -128}, {0, -129, 127}, {0, 255, -1}, {0, 256, 0},
            {0, -256, 0}, {0, Long.MAX_VALUE, -1}, {0, Long.MIN_VALUE, 0}, {1, 32767, 32767}, {1, 32768, -32768}, {1, -32768, -32768},
            {1, -32769, 32767}, {1, 65535, -1}, {1, 65536, 0}, {1, 128, 128}, {1, Long.MAX_VALUE, -1}, {1, Long.MIN_VALUE, 0},
            {2, Integer.MAX_VALUE, Integer.MAX_VALUE}, {2, 1L << 31, Integer.MIN_VALUE}, {2, Integer.MIN_VALUE, Integer.MIN_VALUE},
            {2, -(1L << 31) - 1, Integer.MAX_VALUE}, {2, (1L << 32) - 1, -1}, {2, 1L << 32, 0}, {2, 32768, 32768},
            {2, Long.MAX_VALUE, -1}, {2, Long.MIN_VALUE, 0}, {3, Long.MAX_VALUE, Long.MAX_VALUE}, {3, Long.MIN_VALUE, Long.MIN_VALUE},
            {3, 1L << 32, 1L << 32}, {3, -1, -1}};
        for (long[] one : cuts) {
            C.due(one[1] + " by sort " + one[0], x.write((int) one[0], 0, one[1]), one[2]);
        }
    }

    private static void lists() {
        C.sentence(37, "-2: the TRAY, the PERSON, the SPOT; -6; -5: there is no way");
        MovedSpan x = Checks.river("river 3 week 1;person at 0 west;person at 2 east;walks:1=2;");
        int[][] bad = {{-1, 0, 0}, {4, 0, 0}, {0, -1, 0}, {0, 2, 0}, {0, 0, -1}, {0, 0, 6}, {0, 0, 7}, {0, 0, 9},
            {Integer.MIN_VALUE, 0, 0}, {0, Integer.MAX_VALUE, 0}, {0, 0, Integer.MIN_VALUE}};
        for (int[] b : bad) {
            C.due("lists(" + b[0] + ", " + b[1] + ", " + b[2] + ")", x.lists(b[0], b[1], b[2]), -2);
        }
        C.due("missing, ahead of no way", x.lists(0, 0, 2), -6);
        C.due("missing, ahead of a way", x.lists(3, 0, 1), -6);
        x.numbers(0, 0, 4);
        x.write(0, 0, NONE);
        C.due("no way", x.lists(0, 0, 2), -5);
        C.due("the tray stays", x.judge(0, 3), 1);
        C.due("nobody", new MovedSpan().lists(0, 0, 0), -2);
        C.due("to where it is", x.lists(0, 0, 0), 0);
        C.due("the tray stays then, too", x.judge(0, 3), 1);
        C.due("on the span", x.lists(0, 0, 8), 2);
        C.due("told and done, the rest stays", x.perform(0), 4);
        C.due("it is on it", x.person(0, 0), 8);
    }

    private static void listsAsFar() {
        C.sentence(37, "ACTS of a way, as DEEDS, an HOUR behind each, come into a TRAY, as far as it has places: how many");
        for (int fog : new int[] {0, 1, 18, 19, 20, 58, 59}) {
            for (int places : new int[] {0, 1, 2, 3, 39, 40}) {
                MovedSpan x = Checks.river("river 2 week 1;person at 0 west;walks:1=2;");
                x.fog(fog);
                x.numbers(2, 0, places);
                int acts = fog + 1;
                int listed = Math.min(2 * acts, places);
                C.due(acts + " acts, " + places + " places", x.lists(2, 0, 1), listed);
                C.due("all can be, the rest is 0", x.perform(2), places);
                C.due("as many hours as came into it", x.count(6), listed / 2);
                C.due("over, if all did", x.person(0, 0), 2 * acts <= places ? 1 : 0);
                C.due("told, if an hour has no place", x.person(0, 5), 2 * acts == places + 1 ? 3 : 0);
            }
        }
        MovedSpan y = Checks.river("river 2 week 1;person at 0 west;walks:1=2;");
        y.fog(60);
        y.numbers(2, 0, 40);
        C.due("a way of 61", y.lists(2, 0, 1), -5);
    }

    private static void listsOfEverybody() {
        C.sentence(37, "as DEEDS: PERSON v by 10 does ACT v modulo 10");
        for (int sort = 0; sort < 4; sort++) {
            MovedSpan x = Checks.river("river 4 week 2;span 1 at 3;" + "person at 0 west;".repeat(5) + "walks:who<4;");
            x.numbers(sort, sort, 4);
            for (int p = 0; p < 5; p++) {
                C.due("on and off, or walking", x.lists(sort, p, p == 4 ? 7 : 4), 4);
                C.due("all of it", x.perform(sort), 4);
                C.due("person " + p, x.person(p, 0), p == 4 ? 7 : 4);
                C.due("the others stay", x.person((p + 1) % 5, 0), p < 4 ? 0 : 4);
            }
        }
        MovedSpan told = Checks.river("river 2 week 1;person at 0 west;");
        told.act(0, 1);
        told.numbers(0, 0, 2);
        C.due("what it was told aside", told.lists(0, 0, 1), 2);
        C.due("nothing is told by it", told.person(0, 5) * 10 + told.count(9), 11);
    }

    private static void image() {
        C.sentence(38, "An IMAGE is made: 0. -2.");
        MovedSpan x = new MovedSpan();
        C.due("-1", x.image(-1), -2);
        C.due("2", x.image(2), -2);
        for (int far : FAR) {
            C.due("image(" + far + ")", x.image(far), -2);
        }
        C.due("none was made", x.restore(0) * 10 + x.restore(1), -55);
        C.due("0", x.image(0), 0);
        C.due("the other wasn't made", x.restore(1), -5);
        C.due("1", x.image(1), 0);
        C.sentence(38, "an IMAGE in place of another one");
        x.fog(7);
        x.image(1);
        x.fog(9);
        x.restore(1);
        C.due("the later one", x.count(7), 7);
        x.restore(0);
        C.due("the other one", x.count(7), 0);
    }

    private static void restore() {
        C.sentence(39, "-2; -5: none was made");
        MovedSpan x = new MovedSpan();
        C.due("-1", x.restore(-1), -2);
        C.due("2", x.restore(2), -2);
        C.due("0", x.restore(0), -5);
        C.due("1", x.restore(1), -5);
        for (int far : FAR) {
            C.due("restore(" + far + ")", x.restore(far), -2);
        }
        x.fog(3);
        x.image(1);
        C.due("0 still not", x.restore(0), -5);
        C.due("what can be undone still can", x.undo(1), 0);
        C.due("1", x.restore(1), 0);
        C.due("fog", x.count(7), 3);
        C.sentence(39, "nothing can be UNDONE behind");
        C.due("undo", x.undo(1), -3);
        x.fog(4);
        x.fog(5);
        C.due("2 calls", x.count(9), 2);
        C.due("again", x.restore(1), 0);
        C.due("none", x.count(9), 0);
        x.fog(6);
        C.due("back to the image, not farther", x.undo(1), 0);
        C.due("fog", x.count(7), 3);
        C.due("undo", x.undo(1), -3);
        C.sentence(39, "an IMAGE doesn't change with what comes behind it");
        for (int i = 0; i < 12; i++) {
            x.tell(0, NONE);
            x.fog(40 + i);
            x.hours(3);
            C.due("restore", x.restore(1), 0);
            C.due("as it was", x.count(7) * 100 + x.count(6) * 10 + x.span(0), 300);
        }
    }

    private static void imageOfAll() {
        C.sentence(39, "All that is in an IMAGE is as it was: THE RIVER and what a call could bring back by UNDOING");
        MovedSpan x = new MovedSpan();
        x.image(1);
        String nothing = Probe.state(x);
        Checks.tell(x, "river 4 week 6;span 5 at 3;span 2 rest;foggy 7;hour 17;walks:load>8;serves:gap=3;"
            + "person at 3 west load 9 to 3 east by 40;person at 0 east load 8 to 0 east by 17;");
        x.tell(4, 2);
        x.fog(12);
        x.act(0, 3);
        String before = Probe.state(x);
        x.image(0);
        C.same("an image changes nothing", Probe.state(x), before);
        x.hours(7);
        Checks.tell(x, "river 2 week 1;person at 1 east;walks:1=2;serves:1=2;");
        x.numbers(2, 1, 5);
        x.feed(7, 7, 7, 7, 7);
        x.restore(0);
        String[] want = before.split(" ");
        want[9] = "0";
        want[10] = "20";
        C.same("all but undoing and the tape", Probe.state(x), String.join(" ", want));
        C.due("the law walks", x.why(0, 2) * 10 + x.why(1, 1), 3);
        C.due("the law serves", x.why(0, 3), 0);
        C.due("likely by foggy 7", x.chance(0, 7, 1, 1), 1);
        C.due("a tray that came behind stays", x.write(2, 4, 1), 1);
        x.restore(1);
        String[] none = Probe.state(x).split(" ");
        none[10] = "0";
        C.same("without a text", String.join(" ", none), nothing);
        x.restore(0);
        C.due("and back again", x.why(0, 3), 0);
    }

    private static void count() {
        C.sentence(40, "NONE for others");
        MovedSpan x = new MovedSpan();
        C.due("-1", x.count(-1), NONE);
        C.due("12", x.count(12), NONE);
        for (int far : FAR) {
            C.due("count(" + far + ")", x.count(far), NONE);
        }
        int[] fresh = {2, 1, 0, 0, 0, 0, 0, 0, 0, 0, 0, 0};
        for (int what = 0; what < 12; what++) {
            C.due("count(" + what + ") of a new object", x.count(what), fresh[what]);
        }
        C.sentence(40, "0 GAPS, 1 HOURS of the WEEK, 2 PEOPLE .. 11 LINES: as much as there may be");
        String text = "river 4 week 6;foggy 10;hour 999;" + "person at 3 east to 3 east by 999;".repeat(5);
        Checks.tell(x, text + "hour 999;".repeat(75));
        for (int i = 0; i < 45; i++) {
            x.feed(0, 0, 0, 0, 0);
        }
        for (int i = 0; i < 11; i++) {
            x.fog(99);
        }
        int[] full = {4, 6, 5, 31, 31, 0, 999, 99, 10, 10, 900, 83};
        for (int what = 0; what < 12; what++) {
            C.due("count(" + what + ")", x.count(what), full[what]);
        }
    }

    private static void countBits() {
        C.sentence(40, "3 those with ERRANDS, 4 those whose ERRANDS are DONE, 5 those on THE SPAN, as bits");
        MovedSpan x = Checks.river("river 2 week 1;person at 0 west;person at 0 west to 0 west by 0;person at 0 west to 0 east by 1;"
            + "person at 0 west;person at 0 west to 1 east by 9;");
        C.due("with errands", x.count(3), 2 + 4 + 16);
        C.due("done", x.count(4), 2);
        C.due("on the span", x.count(5), 0);
        for (int p = 0; p < 5; p++) {
            C.due("errand " + p, x.person(p, 2) != NONE ? 1 : 0, x.count(3) >> p & 1);
        }
        x.act(2, 3);
        x.act(0, 4);
        x.act(3, 4);
        x.act(4, 4);
        x.hours(1);
        C.due("done", x.count(4), 2 + 4);
        C.due("with errands still", x.count(3), 2 + 4 + 16);
        C.due("on the span", x.count(5), 1 + 8 + 16);
        x.act(0, 5);
        x.act(4, 6);
        x.hours(1);
        C.due("on the span", x.count(5), 8);
        C.sentence(40, "6 HOUR, 7 for how many HOURS it FOGS, 10 bytes on THE TAPE");
        C.due("hour", x.count(6), 2);
        x.fog(2);
        x.hours(1);
        C.due("fog", x.count(7), 1);
        x.hours(2);
        C.due("none", x.count(7), 0);
        C.due("tape", x.count(10), 0);
        x.feed(0, 0, 0, 0, 0);
        C.due("tape", x.count(10), 20);
    }
}
