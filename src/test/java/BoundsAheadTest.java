/** To come, errands and weeks, sentence by sentence: what names a boundary, at it and beside it. Promises 16 to 29. */
public final class BoundsAheadTest {
    private static final Checks C = new Checks();
    private static final int NONE = MovedSpan.NONE;
    private static final int[] FAR = {Integer.MIN_VALUE, Integer.MIN_VALUE + 1, -1000, 1000000, Integer.MAX_VALUE};
    /** Nobody walks, the span lies at gap 0 always. */
    private static final String STILL = "river 2 week 1;person at 0 west;person at 0 east;walks:1=2;";
    private static final String RESTS = "span 0 rest;span 1 rest;span 2 rest;span 3 rest;span 4 rest;span 5 rest;";

    public static void main(String[] args) {
        soonest();
        sixtyHours();
        way();
        firstByActs();
        lawsToCome();
        ways();
        reach();
        meet();
        meetAt();
        inTime();
        spare();
        needs();
        moves();
        best();
        bestOfSix();
        bestOfLikeOnes();
        bestAnew();
        change();
        weeks();
        shift();
        C.end("BoundsAheadTest");
    }

    /** The spots of a river and those it hasn't, people it has and hasn't, as one call tells them. */
    interface Asked {
        long of(MovedSpan x, int p, int spot);
    }

    private static void refusesSpots(String name, Asked call) {
        for (int gaps = 2; gaps <= 4; gaps++) {
            MovedSpan x = Checks.river("river " + gaps + " week 1;person at 0 west;person at 0 west;");
            for (int spot = -2; spot <= 12; spot++) {
                boolean is = spot >= 0 && spot < 2 * gaps || spot == 8;
                C.holds(name + " of spot " + spot + " of " + gaps + " gaps", call.of(x, 1, spot) == -2 != is);
            }
            C.due(name + " of person -1", call.of(x, -1, 0), -2);
            C.due(name + " of person 2", call.of(x, 2, 0), -2);
            for (int far : FAR) {
                C.due(name + " of person " + far, call.of(x, far, 0), -2);
                C.due(name + " of spot " + far, call.of(x, 0, far), -2);
            }
        }
        C.due(name + " of nobody", call.of(new MovedSpan(), 0, 0), -2);
        MovedSpan five = Checks.river("river 4 week 1;" + "person at 3 east;".repeat(5));
        C.holds(name + " of person 4", call.of(five, 4, 7) != -2);
        C.due(name + " of person 5", call.of(five, 5, 7), -2);
    }

    private static void soonest() {
        C.sentence(16, "HOURS of a PERSON to a SPOT (0 to 8). -2.");
        refusesSpots("soonest", MovedSpan::soonest);
        C.sentence(16, "the fewest till it is there (0: it is)");
        MovedSpan x = Checks.river("river 4 week 6;person at 0 west;");
        int[] due = {0, 1, 1, 2, 2, 3, 3, 4, 1};
        for (int spot = 0; spot < 9; spot++) {
            C.due("soonest(0, " + spot + ")", x.soonest(0, spot), due[spot]);
        }
        C.sentence(16, "(what it was told aside), THE SPAN by the WEEK, FOG as long as it lasts, none then");
        x.act(0, 1);
        C.due("told aside", x.soonest(0, 1), 1);
        x.fog(1);
        C.due("an hour of fog", x.soonest(0, 1), 2);
        x.fog(0);
        MovedSpan round = Checks.river("river 2 week 6;" + RESTS + "span 4 at 0;hour 5;person at 0 west;");
        C.due("from hour 5 on to hour 4 of the next week", round.soonest(0, 1), 6);
        round.hours(5);
        C.due("in hour 4 itself", round.soonest(0, 1), 1);
        round.fog(1);
        C.due("fog then, a week later", round.soonest(0, 1), 7);
    }

    private static void sixtyHours() {
        C.sentence(16, "60 at most. NONE: not by 60");
        MovedSpan x = Checks.river(STILL);
        x.fog(58);
        C.due("59", x.soonest(0, 1), 59);
        x.fog(59);
        C.due("60", x.soonest(0, 1), 60);
        x.fog(60);
        C.due("61", x.soonest(0, 1), NONE);
        x.fog(99);
        C.due("100", x.soonest(0, 1), NONE);
        C.due("it is there all the same", x.soonest(0, 0), 0);
        C.due("never", x.soonest(0, 2), NONE);
        x.fog(0);
        C.due("never", x.soonest(0, 2), NONE);
        MovedSpan six = Checks.river("river 2 week 6;" + RESTS + "span 5 at 0;person at 0 west;walks:1=2;");
        six.fog(59);
        C.due("fog but for hour 59", six.soonest(0, 1), 60);
        six.fog(60);
        C.due("and in it", six.soonest(0, 1), NONE);
    }

    private static void way() {
        C.sentence(17, "-2; -3: i is below 0");
        refusesSpots("way", (x, p, spot) -> x.way(p, spot, 0));
        refusesSpots("way of no i", (x, p, spot) -> x.way(p, spot, -1));
        MovedSpan x = Checks.river(STILL);
        C.due("-1", x.way(0, 1, -1), -3);
        C.due("far below", x.way(0, 1, Integer.MIN_VALUE), -3);
        C.due("no way, ahead of NONE", x.way(0, 2, -1), -3);
        C.sentence(17, "NONE: not so many, there is no way");
        C.due("0", x.way(0, 1, 0), 3);
        C.due("1", x.way(0, 1, 1), NONE);
        C.due("far above", x.way(0, 1, Integer.MAX_VALUE), NONE);
        C.due("it is there", x.way(0, 0, 0), NONE);
        C.due("no way", x.way(0, 2, 0), NONE);
        C.sentence(17, "60 at most");
        x.fog(59);
        for (int i = 0; i < 59; i++) {
            C.due("way(0, 1, " + i + ")", x.way(0, 1, i), 0);
        }
        C.due("the 60th act", x.way(0, 1, 59), 3);
        C.due("no 61st", x.way(0, 1, 60), NONE);
        x.fog(60);
        C.due("no way of 61", x.way(0, 1, 60), NONE);
        C.due("none at all", x.way(0, 1, 0), NONE);
    }

    private static void wayIs(String what, MovedSpan x, int spot, int... acts) {
        for (int i = 0; i < acts.length; i++) {
            C.due(what + ", act " + i, x.way(0, spot, i), acts[i]);
        }
        C.due(what + ", no more", x.way(0, spot, acts.length), NONE);
    }

    private static void firstByActs() {
        C.sentence(17, "its ACTS: of like ones the first by ACTS, one behind the other");
        String two = "river 2 week 2;span 0 at 0;span 1 at 1;person at 0 west;";
        wayIs("up ahead of cross ahead of on", Checks.river(two), 3, 1, 3);
        wayIs("cross ahead of on", Checks.river(two + "walks:side=1;"), 3, 3, 1);
        wayIs("on and off to the east", Checks.river(two + "walks:1=2;"), 3, 4, 6);
        wayIs("on and off to the west", Checks.river(two + "walks:1=2;"), 2, 4, 5);
        wayIs("stay as long as can be", Checks.river("river 2 week 3;span 0 rest;span 1 rest;person at 0 west;"), 1, 0, 0, 3);
        wayIs("stay, then up", Checks.river("river 2 week 3;span 0 rest;span 1 rest;span 2 at 1;person at 0 west;"), 3, 0, 1, 3);
        wayIs("down", Checks.river("river 4 week 1;person at 3 east;"), 1, 2, 2, 2);
        wayIs("cross, then down", Checks.river("river 4 week 1;span 0 at 3;person at 3 east;"), 4, 3, 2);
        wayIs("down, then cross", Checks.river("river 4 week 1;span 0 at 2;person at 3 east;"), 4, 2, 3);
    }

    private static void lawsToCome() {
        C.sentence(16, "hour: HOUR modulo the WEEK, in the hours to come");
        String text = "river 2 week 6;hour 4;person at 0 west to 1 west by 7;person at 1 west;walks:hour=0 and who=0;serves:hour=2;";
        MovedSpan x = Checks.river(text);
        C.due("walks in hour 6", x.soonest(0, 2), 3);
        wayIs("walks in hour 6", x, 2, 0, 0, 1);
        C.due("not ahead of it", x.reach(0, 2), 1);
        C.due("behind it", x.reach(0, 3), 5);
        C.due("one way", x.ways(0, 2, 3) * 10 + x.ways(0, 2, 2), 10);
        C.due("crosses in hour 8", x.soonest(0, 1), 5);
        C.due("both meet", x.meet(0, 1) * 10 + x.meetAt(0, 1), 32);
        C.due("in time", x.inTime(), 1);
        C.due("not an hour to spare", x.spare(0), 2);
        x.tell(2, 1);
        C.due("who 1 crosses in hour 8", x.soonest(1, 3), 5);
        x.fog(4);
        C.due("a law that minds no fog", x.soonest(1, 3), 5);
        MovedSpan fog = Checks.river("river 2 week 2;person at 0 west;walks:fog=1 and hour=1;");
        fog.fog(1);
        C.due("the fog is over in hour 1", fog.soonest(0, 2), NONE);
        fog.fog(2);
        C.due("it lasts till then", fog.soonest(0, 2) * 100 + fog.reach(0, 2) * 10 + fog.ways(0, 2, 2), 251);
        wayIs("in fog", fog, 2, 0, 1);
    }

    private static void ways() {
        C.sentence(18, "-2; -3.");
        refusesSpots("ways", (x, p, spot) -> x.ways(p, spot, 3));
        refusesSpots("ways of no n", (x, p, spot) -> x.ways(p, spot, 13));
        MovedSpan x = Checks.river(STILL);
        C.due("-1", x.ways(0, 1, -1), -3);
        C.due("13", x.ways(0, 1, 13), -3);
        for (int far : FAR) {
            C.due("ways(0, 1, " + far + ")", x.ways(0, 1, far), -3);
        }
        C.sentence(18, "In how many ways by ACTS (each that can be, STAY too) it is at a SPOT in just n HOURS (0 to 12)");
        C.due("0 hours, there", x.ways(0, 0, 0), 1);
        C.due("0 hours, elsewhere", x.ways(0, 1, 0), 0);
        long all = 1;
        for (int n = 1; n <= 12; n++) {
            C.due("west in " + n, x.ways(0, 0, n), all);
            C.due("east in " + n, x.ways(0, 1, n), all);
            C.due("on it in " + n, x.ways(0, 8, n), all);
            all *= 3;
        }
        C.due("never", x.ways(0, 2, 12), 0);
        x.fog(12);
        C.due("12 hours of fog", x.ways(0, 0, 12), 1);
        C.due("12 hours of fog", x.ways(0, 1, 12), 0);
        x.fog(11);
        C.due("11 hours of fog", x.ways(0, 1, 12), 1);
        MovedSpan half = Checks.river("river 2 week 2;span 1 rest;person at 0 west;walks:1=2;");
        C.due("12 hours, 6 of which serve", half.ways(0, 1, 12), 243);
        half.hours(1);
        C.due("11 hours, 5 of which serve", half.ways(0, 1, 11), 81);
        MovedSpan walk = Checks.river("river 2 week 1;span 0 rest;person at 0 west;");
        C.due("staying and walking", walk.ways(0, 2, 12), 2048);
        C.due("as in 60 hours never", walk.ways(0, 1, 12), 0);
    }

    private static void reach() {
        C.sentence(19, "SPOTS where it can be in n HOURS (0 to 60), as bits. -2; -3.");
        MovedSpan x = Checks.river(STILL);
        C.due("-1", x.reach(0, -1), -3);
        C.due("61", x.reach(0, 61), -3);
        for (int far : FAR) {
            C.due("reach(0, " + far + ")", x.reach(0, far), -3);
            C.due("reach(" + far + ", 0)", x.reach(far, 0), -2);
        }
        C.due("person -1", x.reach(-1, 61), -2);
        C.due("person 2", x.reach(2, -1), -2);
        C.due("nobody", new MovedSpan().reach(0, 0), -2);
        C.due("0", x.reach(1, 0), 2);
        C.due("1", x.reach(1, 1), 259);
        C.due("60", x.reach(1, 60), 259);
        x.fog(60);
        C.due("60 hours of fog", x.reach(0, 60), 1);
        x.fog(59);
        C.due("59 of them", x.reach(0, 60), 259);
        C.due("in 59", x.reach(0, 59), 1);
        MovedSpan all = Checks.river("river 4 week 1;person at 3 east;");
        C.due("all of 4 gaps", all.reach(0, 60), 511);
        C.due("3 hours walking, none to spare", all.reach(0, 3), 2 + 8 + 32 + 128);
    }

    private static void meet() {
        C.sentence(20, "-2: a PERSON, both one");
        MovedSpan x = Checks.river(STILL);
        int[][] bad = {{-1, 0}, {0, -1}, {2, 0}, {0, 2}, {0, 0}, {1, 1}, {2, 2}, {-1, -1}, {Integer.MAX_VALUE, 0}, {0, Integer.MIN_VALUE}};
        for (int[] two : bad) {
            C.due("meet(" + two[0] + ", " + two[1] + ")", x.meet(two[0], two[1]), -2);
            C.due("meetAt(" + two[0] + ", " + two[1] + ")", x.meetAt(two[0], two[1]), -2);
        }
        C.due("nobody", new MovedSpan().meet(0, 1), -2);
        C.sentence(20, "In how many HOURS (0 to 60) two PEOPLE can be at one SPOT first. NONE: not by then");
        C.due("1", x.meet(0, 1), 1);
        x.fog(58);
        C.due("59", x.meet(0, 1), 59);
        x.fog(59);
        C.due("60", x.meet(0, 1), 60);
        C.due("60, the other way round", x.meet(1, 0), 60);
        x.fog(60);
        C.due("61", x.meet(0, 1), NONE);
        MovedSpan five = Checks.river("river 4 week 1;person at 0 west;person at 0 west;person at 3 east;person at 1 west;person at 3 east;");
        C.due("0", five.meet(0, 1), 0);
        C.due("person 4", five.meet(2, 4), 0);
        C.due("person 5", five.meet(2, 5), -2);
        C.due("half way", five.meet(0, 3), 1);
    }

    private static void meetAt() {
        C.sentence(21, "The SPOT where they can then, the first. NONE: not by 60 HOURS");
        MovedSpan x = Checks.river(STILL);
        C.due("west, east and on the span: west", x.meetAt(0, 1), 0);
        x.fog(59);
        C.due("in 60", x.meetAt(0, 1), 0);
        x.fog(60);
        C.due("in 61", x.meetAt(0, 1), NONE);
        MovedSpan east = Checks.river("river 4 week 1;person at 3 east;person at 3 east;");
        C.due("where they are", east.meetAt(0, 1), 7);
        MovedSpan on = Checks.river("river 2 week 2;span 1 at 1;person at 0 west;person at 1 east;walks:1=2;serves:who=gap;");
        C.due("on the span in 2 hours", on.meet(0, 1), 2);
        C.due("on the span", on.meetAt(0, 1), 8);
        MovedSpan never = Checks.river("river 2 week 1;person at 0 west;person at 1 west;walks:1=2;");
        C.due("never", never.meetAt(0, 1), NONE);
    }

    private static void inTime() {
        C.sentence(22, "IN TIME, if it was DONE, or HOURS to its SPOT and HOUR now are not above the HOUR told");
        MovedSpan x = Checks.river("river 4 week 1;hour 10;person at 0 west to 3 west by 13;person at 0 west to 3 west by 12;"
            + "person at 0 west to 3 west by 14;person at 0 west to 0 west by 10;person at 0 west to 0 west by 9;");
        C.due("by 13, by 14, done; not by 12, nor by 9", x.inTime(), 13);
        x.hours(1);
        C.due("by 14, done", x.inTime(), 12);
        x.hours(1);
        C.due("done", x.inTime(), 8);
        C.sentence(22, "HOURS to its SPOT, 60 at most");
        MovedSpan far = Checks.river("river 2 week 1;person at 0 west to 0 east by 60;person at 0 west to 0 east by 59;"
            + "person at 0 west to 0 east by 999;person at 0 west to 0 east by 61;person at 0 west;");
        far.fog(59);
        C.due("60 hours: by 60, by 999, by 61", far.inTime(), 13);
        far.fog(60);
        C.due("61 hours: none", far.inTime(), 0);
        far.fog(58);
        C.due("59 hours: all", far.inTime(), 15);
        C.sentence(22, "who has none, isn't among them");
        C.due("nobody", new MovedSpan().inTime(), 0);
        C.due("none has", Checks.river(STILL).inTime(), 0);
        MovedSpan last = Checks.river("river 2 week 1;hour 999;person at 0 west to 1 west by 999;person at 0 west to 0 west by 999;");
        C.due("hour 1000 is above 999", last.inTime(), 2);
    }

    private static void spare() {
        C.sentence(23, "-2; -5: it has none");
        MovedSpan x = Checks.river("river 2 week 1;person at 0 west;person at 0 west to 1 west by 0;");
        C.due("-1", x.spare(-1), -2);
        C.due("2", x.spare(2), -2);
        for (int far : FAR) {
            C.due("spare(" + far + ")", x.spare(far), -2);
            C.due("needs(" + far + ")", x.needs(far), -2);
        }
        C.due("no errand", x.spare(0), -5);
        C.due("nobody", new MovedSpan().spare(0), -2);
        C.sentence(23, "The most HOURS (0 to 60). NONE: by none; 60, if it is DONE");
        C.due("by 0, an hour away", x.spare(1), NONE);
        int[][] bySpare = {{1, 0}, {2, 1}, {60, 59}, {61, 60}, {62, 60}, {999, 60}};
        for (int[] one : bySpare) {
            MovedSpan y = Checks.river("river 2 week 1;person at 0 west to 1 west by " + one[0] + ";");
            C.due("by " + one[0], y.spare(0), one[1]);
            y.act(0, 1);
            y.hours(1);
            C.due("done", y.spare(0), 60);
        }
        MovedSpan late = Checks.river("river 2 week 1;hour 5;person at 1 west to 1 west by 4;");
        C.due("there, and too late", late.spare(0), NONE);
        C.sentence(23, "HOURS to its SPOT from then on, 60 at most");
        MovedSpan fog = Checks.river("river 2 week 1;person at 0 west to 0 east by 75;walks:1=2;");
        fog.fog(74);
        C.due("61 hours from 14 on, 15 from 60 on", fog.spare(0), 60);
        fog.fog(75);
        C.due("over in hour 76", fog.spare(0), NONE);
        fog.fog(59);
        C.due("in clear hours", fog.spare(0), 60);
        MovedSpan round = Checks.river("river 2 week 6;" + RESTS + "span 1 at 0;hour 3;person at 0 west to 0 east by 14;walks:1=2;");
        C.due("over in hours 7 and 13", round.spare(0), 10);
        round.hours(10);
        C.due("in hour 13", round.spare(0), 0);
        round.hours(1);
        C.due("behind it", round.spare(0), NONE);
    }

    private static void needs() {
        C.sentence(24, "NONE: it isn't anyhow; -2; -5: it has none");
        MovedSpan x = Checks.river("river 2 week 1;person at 0 west;person at 0 west to 1 west by 0;person at 0 west to 1 west by 1;");
        C.due("-1", x.needs(-1), -2);
        C.due("3", x.needs(3), -2);
        C.due("no errand", x.needs(0), -5);
        C.due("not in time", x.needs(1), NONE);
        C.due("walking needs no span", x.needs(2), 0);
        C.due("nobody", new MovedSpan().needs(0), -2);
        C.sentence(24, "HOURS of the WEEK in each of which alone, if THE SPAN RESTED then, its ERRAND would not be IN TIME, as bits");
        for (int h = 0; h < 6; h++) {
            MovedSpan y = Checks.river("river 2 week 6;" + RESTS + "span " + h + " at 0;hour 4;person at 0 west to 0 east by 10;walks:1=2;");
            C.due("hour " + h, y.needs(0), 1 << h);
            y.tell((h + 3) % 6, 0);
            C.due("either of two", y.needs(0), 0);
            C.due("the week stays", y.span((h + 2) % 6), 0);
        }
        MovedSpan ride = Checks.river("river 3 week 6;" + RESTS + "span 0 at 0;span 5 at 2;person at 0 west to 2 west by 6;walks:1=2;");
        C.due("on in hour 0, off in hour 5", ride.needs(0), 33);
        MovedSpan done = Checks.river("river 2 week 6;person at 0 west to 0 west by 0;");
        C.due("done", done.needs(0), 0);
        done.act(0, 3);
        done.hours(1);
        C.due("done, and gone", done.needs(0) + done.person(0, 0), 1);
        C.due("done, and gone: still in time", done.inTime() * 100 + done.spare(0), 160);
    }

    private static void moves() {
        C.sentence(25, "in how many HOURS it lies otherwise than in the HOUR ahead (that ahead of the first is the last one)");
        C.due("a week of 1", new MovedSpan().moves(), 0);
        C.due("a week of 1, resting", Checks.river("river 2 week 1;span 0 rest;").moves(), 0);
        C.due("all alike", Checks.river("river 2 week 6;").moves(), 0);
        C.due("all resting", Checks.river("river 2 week 6;" + RESTS).moves(), 0);
        C.due("the last otherwise", Checks.river("river 2 week 6;span 5 at 1;").moves(), 2);
        C.due("the first otherwise", Checks.river("river 2 week 6;span 0 rest;").moves(), 2);
        C.due("0 1", Checks.river("river 2 week 2;span 1 at 1;").moves(), 2);
        C.due("0 1 0 1 0 1", Checks.river("river 2 week 6;span 1 at 1;span 3 at 1;span 5 at 1;").moves(), 6);
        C.due("0 1 2 3 r r", Checks.river("river 4 week 6;span 1 at 1;span 2 at 2;span 3 at 3;span 4 rest;span 5 rest;").moves(), 5);
        C.due("0 0 1 1 2 2", Checks.river("river 4 week 6;span 2 at 1;span 3 at 1;span 4 at 2;span 5 at 2;").moves(), 3);
    }

    private static void weekIs(String what, MovedSpan x, int... week) {
        for (int h = 0; h < week.length; h++) {
            C.due(what + ", hour " + h, x.best(10 + h), week[h]);
        }
    }

    private static void best() {
        C.sentence(26, "-2: what (10 and an HOUR of the WEEK)");
        for (int hours = 1; hours <= 6; hours++) {
            MovedSpan x = Checks.river("river 2 week " + hours + ";");
            C.due("best(0)", x.best(0), 0);
            C.due("best(1)", x.best(1), 0);
            for (int what = -3; what < 20; what++) {
                if (what != 0 && what != 1) {
                    C.due("best(" + what + ") of " + hours, x.best(what), what >= 10 && what < 10 + hours ? 0 : -2);
                }
            }
            for (int far : FAR) {
                C.due("best(" + far + ")", x.best(far), -2);
            }
        }
        C.sentence(26, "BEST: by which most ERRANDS are IN TIME");
        MovedSpan one = Checks.river("river 2 week 1;span 0 rest;person at 0 west to 0 east by 1;person at 1 west to 1 east by 1;person at 1 east to 1 west by 1;walks:1=2;");
        C.due("two of three", one.best(0), 2);
        weekIs("two of three", one, 1);
        C.due("the span stays", one.span(0), NONE);
        one.act(1, 0);
        one.tell(0, 0);
        one.act(0, 3);
        one.hours(1);
        C.due("one done, the others too late", one.best(0), 1);
        weekIs("then gap 0 is first", one, 0);
        one.undo(1);
        C.due("undone", one.best(0), 2);
        weekIs("undone", one, 1);
    }

    private static void bestOfSix() {
        C.sentence(26, "of like ones with the fewest MOVES, of like ones the first by HOURS");
        String four = "person at 0 west to 0 east by 6;person at 1 west to 1 east by 6;person at 2 west to 2 east by 6;person at 3 west to 3 east by 6;";
        MovedSpan x = Checks.river("river 4 week 6;" + RESTS + four + "person at 3 east;walks:1=2;");
        C.due("all", x.best(0), 4);
        C.due("moves", x.best(1), 4);
        weekIs("four gaps", x, 0, 0, 0, 1, 2, 3);
        MovedSpan tight = Checks.river("river 4 week 6;hour 5;person at 0 west to 0 east by 6;person at 1 west to 1 east by 7;walks:1=2;");
        C.due("over in hour 5 and in hour 6", tight.best(0), 2);
        C.due("moves", tight.best(1), 2);
        weekIs("hours go round", tight, 1, 0, 0, 0, 0, 0);
        tight.fog(1);
        C.due("fog in hour 5", tight.best(0), 1);
        weekIs("fog in hour 5", tight, 1, 1, 1, 1, 1, 1);
        tight.fog(2);
        C.due("fog in both", tight.best(0) * 10 + tight.best(1), 0);
        weekIs("fog in both", tight, 0, 0, 0, 0, 0, 0);
        MovedSpan ride = Checks.river("river 4 week 6;hour 2;person at 3 west to 0 east by 4;walks:1=2;");
        C.due("on in hour 2, off in hour 3", ride.best(0) * 10 + ride.best(1), 12);
        weekIs("a ride", ride, 0, 0, 3, 0, 0, 0);
        MovedSpan last = Checks.river("river 4 week 6;person at 3 west to 3 east by 6;walks:1=2;");
        weekIs("no move is fewer than two", last, 3, 3, 3, 3, 3, 3);
        C.sentence(26, "HOURS to its SPOT, 60 at most");
        MovedSpan far = Checks.river("river 2 week 1;person at 1 west to 1 east by 999;person at 0 west to 0 east by 59;walks:1=2;");
        far.fog(59);
        C.due("60 hours to 1 east", far.best(0), 1);
        weekIs("60 hours to 1 east", far, 1);
        far.fog(60);
        C.due("61", far.best(0), 0);
        weekIs("61", far, 0);
        far.fog(58);
        C.due("59 hours, to either", far.best(0), 1);
        weekIs("59 hours, to either", far, 0);
    }

    private static void bestOfLikeOnes() {
        C.sentence(26, "of like ones with the fewest MOVES, the first by HOURS: not the first that is found");
        // Who 1 and who 2 cross at gap 1 in hours 1 and 3 alone, who 0 at gap 0 in any.
        String people = "person at 0 west to 0 east by 99;person at 1 west to 1 east by 99;person at 1 west to 1 east by 99;"
            + "walks:1=2;serves:who=0 or hour=2*who-1;";
        for (int hour = 0; hour < 8; hour++) {
            MovedSpan x = Checks.river("river 2 week 4;hour " + hour + ";" + people);
            C.due("three, from hour " + hour, x.best(0), 3);
            C.due("two moves, not four", x.best(1), 2);
            weekIs("0 1 1 1 ahead of 1 1 0 1, from hour " + hour, x, 0, 1, 1, 1);
            C.due("0 1 any 1, any 1 0 1", x.weeks(), 5);
        }
        C.sentence(26, "GAPS ahead of RESTING, where no WEEK is any good");
        MovedSpan stuck = Checks.river("river 2 week 1;span 0 rest;person at 0 west to 1 east by 9;walks:1=2;");
        C.due("none by any", stuck.best(0) * 10 + stuck.best(1), 0);
        weekIs("none by any", stuck, 0);
        C.due("by no week", stuck.weeks(), 0);
        C.sentence(26, "ERRANDS that were DONE, ERRANDS too late");
        MovedSpan gone = Checks.river("river 2 week 2;person at 0 west to 0 west by 0;person at 1 west to 1 east by 2;walks:1=2;");
        gone.act(0, 3);
        gone.hours(1);
        C.due("done, and gone", gone.best(0) * 10 + gone.best(1), 20);
        weekIs("for the other one", gone, 1, 1);
        C.due("hour 1 at gap 1", gone.weeks(), 3);
        gone.hours(1);
        C.due("the other one too late", gone.best(0) * 10 + gone.weeks(), 10);
        MovedSpan late = Checks.river("river 2 week 2;hour 7;person at 0 west to 0 west by 6;");
        C.due("there, but too late", late.best(0) * 100 + late.weeks() * 10 + late.inTime(), 0);
        C.due("no change, no shift", late.change() * 10 + late.shift(), -10);
    }

    private static void bestAnew() {
        C.sentence(26, "BEST and WEEKS as it is now, whatever was asked ahead");
        String near = "river 2 week 1;person at 1 west to 1 east by 1;walks:1=2;";
        MovedSpan x = Checks.river(near);
        x.image(0);
        C.due("gap 1", x.best(10) * 10 + x.weeks(), 11);
        Checks.tell(x, "river 2 week 1;person at 0 west to 0 east by 1;person at 0 west;walks:1=2;");
        C.due("another text: gap 0", x.best(10) * 10 + x.weeks(), 1);
        x.restore(0);
        C.due("an image: gap 1", x.best(10) * 10 + x.weeks(), 11);
        x.hours(1);
        C.due("an hour later: too late", x.best(10) * 100 + x.best(0) * 10 + x.weeks(), 0);
        x.undo(1);
        C.due("undone: gap 1", x.best(10) * 10 + x.weeks(), 11);
        x.fog(1);
        C.due("fog: too late", x.best(10) * 100 + x.best(0) * 10 + x.weeks(), 0);
        x.fog(0);
        C.due("no fog: gap 1", x.best(10) * 10 + x.weeks(), 11);
        x.tell(0, NONE);
        C.due("the week as told aside", x.best(10) * 10 + x.weeks(), 11);
        Checks.fill(x, 0, 201);
        x.perform(0);
        C.due("fog by a tray", x.best(0) * 10 + x.weeks(), 0);
        x.restore(0);
        C.due("an image again", x.best(0) * 10 + x.weeks(), 11);
    }

    private static void change() {
        C.sentence(27, "10 times the HOUR and the GAP (9: it RESTS), the first by HOURS (GAPS ahead of RESTING). NONE: none.");
        for (int h = 0; h < 6; h++) {
            MovedSpan x = Checks.river("river 4 week 6;" + RESTS + "hour " + (6 + h) + ";person at 3 west to 3 east by " + (7 + h) + ";walks:1=2;");
            C.due("hour " + h + " at gap 3", x.change(), 10 * h + 3);
            x.tell(h, 3);
            C.due("not more than now", x.change(), NONE);
        }
        MovedSpan round = Checks.river("river 4 week 6;" + RESTS + "hour 5;person at 3 west to 3 east by 7;walks:1=2;");
        C.due("hours 5 and 0: the first by hours", round.change(), 3);
        C.sentence(27, "by which most ERRANDS are IN TIME, if more than now");
        MovedSpan most = Checks.river("river 2 week 1;span 0 rest;person at 0 west to 0 east by 1;person at 1 west to 1 east by 1;person at 1 east to 1 west by 1;walks:1=2;");
        C.due("two are more than one", most.change(), 1);
        most.tell(0, 0);
        C.due("two are more than one, now", most.change(), 1);
        most.tell(0, 1);
        C.due("as many, or less", most.change(), NONE);
        C.due("without errands", new MovedSpan().change(), NONE);
        MovedSpan swap = Checks.river("river 2 week 2;span 1 at 1;person at 0 west to 0 east by 1;person at 1 west to 1 east by 2;walks:1=2;");
        C.due("all in time", swap.change(), NONE);
        swap.tell(0, 1);
        C.due("hour 0 back to gap 0", swap.change(), 0);
        swap.tell(1, 0);
        C.due("one hour alone doesn't do for both", swap.change(), NONE);
    }

    private static void weeks() {
        C.sentence(28, "How many WEEKS (each HOUR a GAP or RESTING) (all, if there are none)");
        int[][] all = {{2, 1, 3}, {3, 1, 4}, {4, 1, 5}, {2, 6, 729}, {3, 6, 4096}, {4, 6, 15625}, {4, 2, 25}};
        for (int[] one : all) {
            C.due(one[0] + " gaps, " + one[1] + " hours", Checks.river("river " + one[0] + " week " + one[1] + ";person at 0 west;").weeks(), one[2]);
        }
        C.due("nobody", new MovedSpan().weeks(), 3);
        C.sentence(28, "by which all ERRANDS are IN TIME");
        String head = "river 4 week 6;walks:1=2;person at 0 west to 0 east by ";
        C.due("by 0", Checks.river(head + "0;").weeks(), 0);
        C.due("by 1: hour 0", Checks.river(head + "1;").weeks(), 3125);
        C.due("by 2: hour 0 or 1", Checks.river(head + "2;").weeks(), 15625 - 16 * 625);
        C.due("by 6: any hour", Checks.river(head + "6;").weeks(), 15625 - 4096);
        C.due("by 7: hour 0 again", Checks.river(head + "7;").weeks(), 15625 - 4096);
        C.due("by 999", Checks.river(head + "999;").weeks(), 15625 - 4096);
        C.due("hour 5, by 6", Checks.river(head + "6;hour 5;").weeks(), 3125);
        C.due("hours 5 and 6", Checks.river(head + "7;hour 5;").weeks(), 15625 - 16 * 625);
        C.due("hour 6 alone, by the law", Checks.river(head + "7;hour 5;serves:hour=0;").weeks(), 3125);
        C.due("a ride in hours 5 and 6", Checks.river("river 4 week 6;walks:1=2;person at 0 west to 3 east by 7;hour 5;").weeks(), 625);
        C.due("one of two never", Checks.river(head + "6;person at 0 west to 1 west by 0;").weeks(), 0);
        C.due("one done", Checks.river(head + "1;person at 3 east to 3 east by 0;").weeks(), 3125);
        C.due("both in one hour", Checks.river(head + "1;person at 1 west to 1 east by 1;").weeks(), 0);
        C.due("in two hours", Checks.river(head + "2;person at 1 west to 1 east by 2;").weeks(), 2 * 625);
        MovedSpan x = Checks.river(head + "1;");
        x.fog(1);
        C.due("fog", x.weeks(), 0);
        x.undo(1);
        C.due("undone", x.weeks(), 3125);
        x.act(0, 3);
        x.hours(1);
        C.due("done", x.weeks(), 15625);
    }

    private static void shift() {
        C.sentence(29, "By how many HOURS (0 to the WEEK's less 1) all has to be later, going round, the least");
        for (int hours = 1; hours <= 6; hours++) {
            for (int h = 0; h < hours; h++) {
                String rests = "";
                for (int i = 1; i < hours; i++) {
                    rests += "span " + i + " rest;";
                }
                String text = "river 2 week " + hours + ";" + rests + "hour " + h + ";person at 0 west to 0 east by " + (h + 1) + ";walks:1=2;";
                MovedSpan x = Checks.river(text);
                C.due("hour " + h + " of " + hours, x.shift(), h);
                C.due("the week stays", x.span(hours - h), 0);
                x.hours(1);
                C.due("too late by any", x.shift(), 0);
            }
        }
        C.due("without errands", Checks.river("river 2 week 6;span 3 at 1;").shift(), 0);
        C.due("nobody", new MovedSpan().shift(), 0);
        MovedSpan most = Checks.river("river 2 week 3;span 0 at 0;span 1 at 1;span 2 rest;person at 0 west to 0 east by 2;person at 1 west to 1 east by 3;walks:1=2;");
        C.due("both as it is", most.shift(), 0);
        most.hours(1);
        C.due("both, an hour later", most.shift(), 1);
        MovedSpan two = Checks.river("river 2 week 3;span 0 at 0;span 1 rest;span 2 rest;hour 2;person at 0 west to 0 east by 4;walks:1=2;");
        C.due("hours 2 and 3 do: the least", two.shift(), 0);
        two.hours(1);
        C.due("hour 3 itself", two.shift(), 0);
        two.undo(1);
        two.tell(0, NONE);
        two.tell(1, 0);
        C.due("1 later: hour 2; 2 later: hour 0: the least", two.shift(), 1);
    }
}
