import com.sun.management.ThreadMXBean;
import java.lang.management.ManagementFactory;

/**
 * All calls of one run live in one room of some 600,000 objects and arrays: a new object makes its
 * rows, and calls that throw nothing make nothing more.
 */
final class RoomTest {
    private static final int PLANNERS = 50;
    // the dearest row of calls here has 61, and a planner is asked no more than 512
    private static final int ROUNDS = 7;
    // less than the smallest object for each round, and more than the measuring itself makes
    private static final long MOST = 8 * PLANNERS * ROUNDS;

    interface Calls {
        void on(SparePlanner x, int i);
    }

    public static void main(String[] args) {
        makesNothing("questions", (x, i) -> {
            x.stockAfter(i, 30);
            x.possible(i % 4);
            x.lacking(i % 4);
            x.taken(i, 0, 999);
            x.available(i);
            x.audit();
            x.averageBits();
            x.serviceBits(i);
            x.weakest();
            x.part(i, 7);
        });
        makesNothing("changes", (x, i) -> {
            x.giveBack(i, 40, true);
            x.giveBack(i, 2, false);
            x.send(i, 1);
            x.request(i, 5);
            x.take(i % 4);
            x.setBounds(i, 60, 90);
            x.setYield(i, i);
            x.addSubstitute(0, 7);
            x.removeSubstitute(0, 7);
            x.advance(1 + i);
            x.sample(1, i % 3, i);
        });
        makesNothing("texts", (x, i) -> {
            for (int k = 0; k < 20; k++) {
                x.append('d');
                x.append('1');
                x.append(';');
            }
            x.read();
        });
        makesNothing("history and saving", (x, i) -> {
            x.advance(1);
            x.undo();
            x.save();
            x.restore();
            x.advance(2);
        });
        makesNothing("clear, and parts and kits again", (x, i) -> {
            x.clear();
            x.addPart(5, 1, 1, 50);
            x.addKit(0, 0, 1);
            x.giveBack(0, 3, false);
            x.send(0, 3);
            x.request(0, 9);
            x.cancel(0);
        });
        Check.end("RoomTest");
    }

    private static SparePlanner[] filledPlanners() {
        SparePlanner[] all = new SparePlanner[PLANNERS];
        for (int i = 0; i < PLANNERS; i++) {
            all[i] = filled();
        }
        return all;
    }

    private static SparePlanner filled() {
        SparePlanner x = new SparePlanner();
        for (int part = 0; part < 8; part++) {
            x.addPart(50, 1 + part, 2, 50);
        }
        for (int part = 0; part < 8; part++) {
            x.setBounds(part, 60, 90);
            x.addSubstitute(part, (part + 1) % 8);
            x.addKit(part / 2, part, 2);
            x.request(part, 3);
        }
        return x;
    }

    private static void makesNothing(String what, Calls calls) {
        madeBy(calls, filledPlanners());
        long made = madeBy(calls, filledPlanners());
        Check.same(what + " make objects of " + made + " bytes", made < MOST, true);
    }

    private static long madeBy(Calls calls, SparePlanner[] planners) {
        ThreadMXBean thread = (ThreadMXBean) ManagementFactory.getThreadMXBean();
        long before = thread.getThreadAllocatedBytes(Thread.currentThread().getId());
        for (SparePlanner planner : planners) {
            for (int i = 0; i < ROUNDS; i++) {
                calls.on(planner, i);
            }
        }
        return thread.getThreadAllocatedBytes(Thread.currentThread().getId()) - before;
    }
}
