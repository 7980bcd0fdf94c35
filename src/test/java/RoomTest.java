import com.sun.management.ThreadMXBean;
import java.lang.management.ManagementFactory;

/** All calls of a run share one room: an object is made once, and no call makes anything more. */
final class RoomTest {
    private static final int OBJECTS = 5;
    // So that an object, with the calls that fill its log, is asked for less than 512.
    private static final int ROUNDS = 13;
    private static final ThreadMXBean THREADS = (ThreadMXBean) ManagementFactory.getThreadMXBean();

    private RoomTest() {
    }

    public static void main(String[] args) {
        long answers = useAll(filled()) + made();
        long before = made();
        ProcessMiner other = new ProcessMiner();
        long forObject = made() - before;
        Check.due("a new object takes " + forObject + " bytes, at most 64000", forObject <= 64000, true);
        ProcessMiner[] miners = new ProcessMiner[OBJECTS];
        for (int i = 0; i < OBJECTS; i++) {
            miners[i] = filled();
        }
        before = made();
        for (int i = 0; i < OBJECTS * ROUNDS; i++) {
            answers += useAll(miners[i / ROUNDS]);
        }
        long forCalls = made() - before;
        // The machine itself makes a few things for its own use while a program warms up.
        Check.due("the calls take " + forCalls + " bytes, at most 16000", forCalls <= 16000, true);
        Check.due("all was used", answers != other.traceCount(), true);
        Check.finish("RoomTest");
    }

    private static ProcessMiner filled() {
        return Logs.log("012345670123", "", "102", "7", "565", "0120", "33", "", "4", "0213");
    }

    private static long made() {
        return THREADS.getThreadAllocatedBytes(Thread.currentThread().getId());
    }

    private static long useAll(ProcessMiner x) {
        long sum = x.dropTrace() + x.event(0) + x.event(2) + x.event(1) + x.event(3) + x.endTrace(1);
        sum += x.setTimes(3, 2) + x.traceCount() + x.length(0) + x.labelAt(0, 11) + x.labels();
        sum += x.follows(0, 1) + x.edges(true) + x.edges(false) + x.relation(1, 2) + (x.leads(1, 7) ? 1 : 0);
        sum += x.variants() + x.mine() + x.kind(0) + x.labelsOf(0) + x.parent(1) + x.children(0) + x.child(0, 1);
        sum += x.shortest(0) + x.height() + (x.accepts(0) ? 1 : 0) + (x.acceptsBuffer() ? 1 : 0);
        return sum + (long) x.fitness() + x.words(0) + x.words(1) + x.words(2) + x.words(3) + x.digest();
    }
}
