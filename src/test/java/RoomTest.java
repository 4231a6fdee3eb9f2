import com.sun.management.ThreadMXBean;
import java.lang.management.ManagementFactory;

/** All calls of a run share one room: a new object is small, and no call makes any objects. */
public final class RoomTest {
    private static final Checks C = new Checks();
    private static final String TEXT = "river 4 week 6;span 1 at 1;span 2 at 2;span 3 at 3;span 4 rest;span 5 at 1;foggy 4;"
        + "person at 0 west to 3 east by 9;person at 3 east to 0 west by 20 load 4;person at 1 west to 1 east by 8;"
        + "person at 2 east to 0 west by 40;person at 3 west to 2 east by 7;"
        + "walks:side=0 and hour=3 or load>3*(1+gap);serves:gap+hour>who and not fog=1;";

    public static void main(String[] args) {
        ThreadMXBean threads = (ThreadMXBean) ManagementFactory.getThreadMXBean();
        long me = Thread.currentThread().getId();
        long sum = allCalls(Checks.river(TEXT));
        long before = threads.getThreadAllocatedBytes(me);
        MovedSpan x = new MovedSpan();
        long made = threads.getThreadAllocatedBytes(me) - before;
        C.holds("a new object takes " + made + " bytes, at most 60000", made <= 60000);
        Checks.tell(x, TEXT);
        before = threads.getThreadAllocatedBytes(me);
        for (int i = 0; i < 8; i++) {
            sum += allCalls(x);
        }
        long used = threads.getThreadAllocatedBytes(me) - before;
        C.holds("calls take " + used + " bytes, next to none", used <= 2000);
        C.holds("they were made: " + sum, sum != 0);
        C.end("RoomTest");
    }

    /** Some 60 calls, the dearest of each kind among them. */
    private static long allCalls(MovedSpan x) {
        long sum = x.fog(3) + x.tell(2, 1) + x.act(0, 1) + x.hours(1) + x.year(7, 40) + x.undo(2);
        sum += x.numbers(0, 2, 12) + x.numbers(1, 3, 40) + x.lists(1, 0, 7) + x.judge(1, 3) + x.perform(1);
        for (int i = 0; i < 12; i++) {
            sum += x.write(0, i, i % 3 == 0 ? 2 : -1);
        }
        for (int p = 0; p < 5; p++) {
            sum += x.soonest(p, 8) + x.way(p, 7, 3) + x.ways(p, 8, 12) + x.reach(p, 60) + x.spare(p) + x.needs(p);
        }
        sum += x.meet(0, 1) + x.meetAt(1, 2) + x.inTime() + x.moves() + x.best(0) + x.best(15) + x.change() + x.weeks();
        sum += x.shift() + x.fits(0, 0, 5) + x.surest(0, 1) + x.odd(0, 2) + x.chance(0, 7, 9, 0) + x.likely(0, 7, 100);
        return sum + x.image(0) + x.restore(0) + x.count(3) + x.fault(0) + x.span(9) + x.person(0, 1) + x.why(0, 3);
    }
}
