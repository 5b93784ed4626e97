import com.sun.management.ThreadMXBean;
import java.lang.management.ManagementFactory;

/** All calls of a run share one room: what is made is made by the constructor, and calls make nothing more. */
public final class RoomTest {
    private static final String SIX = "word w;word v;place p;place q;person a plain at p shy 1;person b echo at p shy 1;"
            + "person c stammer at p shy 1;person d plain at p shy 1;person e plain at q shy 1;person f deaf at p shy 1;"
            + "says a w 1;says b w 2;says d w 3;says e v 1;says e w 1;likes a b 2;likes b a 1;counts liking < 9 or wives;";

    private static long answers;

    private RoomTest() {
    }

    public static void main(String[] args) {
        ThreadMXBean threads = (ThreadMXBean) ManagementFactory.getThreadMXBean();
        long self = Thread.currentThread().getId();
        SnapWed warm = new SnapWed();
        useAll(warm);
        long atFirst = threads.getThreadAllocatedBytes(self);
        SnapWed x = new SnapWed();
        long made = threads.getThreadAllocatedBytes(self);
        useAll(x);
        long used = threads.getThreadAllocatedBytes(self);
        Check.due("a new object is some 60,000 bytes: " + (made - atFirst), made - atFirst < 60000, true);
        Check.due("what all calls make, in bytes: " + (used - made), used - made < 20000, true);
        Check.due("the calls answered something", answers != 0, true);
        Check.end("RoomTest");
    }

    /** The texts fed are the test's own objects, so that these are few and the calls many. */
    private static void useAll(SnapWed x) {
        Check.feed(x, SIX);
        answers += x.province();
        Check.feed(x, "say a w;say b w;moment;walk a q;part a b;keep a b;moment;");
        answers += x.day();
        for (int i = 0; i < 12; i++) {
            answers += x.say(0, 0) ? 1 : 0;
            answers += x.say(1, 0) ? 1 : 0;
            answers += x.moment() + x.part(0, 1) + x.judged(1) + x.mend(0) + x.half(0, 1) + x.safest(0) + x.haven(0);
            answers += x.matches(-1) + x.code(0, 1) + x.may(0, 0) + x.rota(0, -1) + x.company(0) + x.who() + x.likely();
            answers += x.ask() + x.rests(1, 1, -1) + x.generations(i, 60, 0) + x.person(0, 4) + x.within(0, 1, 9);
            x.hear(0);
            x.mark(0, i % 2 == 0);
            x.walk(0, 1);
            x.undo();
        }
    }
}
