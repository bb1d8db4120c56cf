import com.sun.management.ThreadMXBean;
import java.lang.management.ManagementFactory;

/**
 * All calls of one run live in one room of some 600,000 objects and arrays: a new object makes its
 * rows, and calls that throw nothing make nothing more.
 */
final class RoomTest {
    private static final int CALLS = 300;
    // less than the smallest object for each call, and more than the measuring itself makes
    private static final long MOST = 8 * CALLS;

    interface Calls {
        void call(int i);
    }

    public static void main(String[] args) {
        SparePlanner x = filled();
        makesNothing("questions", i -> {
            x.stockAfter(i % 8, 30);
            x.possible(i % 4);
            x.lacking(i % 4);
            x.taken(i % 8, 0, 999);
            x.available(i % 8);
            x.audit();
            x.averageBits();
            x.serviceBits(i % 8);
            x.weakest();
            x.part(i % 8, 7);
        });
        makesNothing("changes", i -> {
            x.giveBack(i % 8, 40, true);
            x.giveBack(i % 8, 2, false);
            x.request(i % 8, 5);
            x.take(i % 4);
            x.setBounds(i % 8, 60, 90);
            x.setYield(i % 8, i % 100);
            x.addSubstitute(0, 7);
            x.removeSubstitute(0, 7);
            x.advance(1 + i % 30);
            x.sample(1, i % 3, i % 8);
        });
        makesNothing("texts", i -> {
            for (int k = 0; k < 20; k++) {
                x.append('d');
                x.append('1');
                x.append(';');
            }
            x.read();
        });
        makesNothing("history and saving", i -> {
            x.advance(1);
            x.undo();
            x.save();
            x.restore();
            x.advance(2);
        });
        makesNothing("clear, and parts and kits again", i -> {
            x.clear();
            x.addPart(5, 1, 1, 50);
            x.addKit(0, 0, 1);
            x.giveBack(0, 3, false);
            x.send(0, 3);
            x.request(0, 9);
            x.cancel(0);
        });
        Check.end("RoomTest");
    }

    private static SparePlanner filled() {
        SparePlanner x = new SparePlanner();
        for (int part = 0; part < 8; part++) {
            x.addPart(50, 1 + part, 2, 50);
        }
        for (int part = 0; part < 8; part++) {
            x.setBounds(part, 60, 90);
            x.addSubstitute(part, (part + 1) % 8);
            x.addKit(part / 2, part, 2);
            x.request(part, 3);
        }
        return x;
    }

    private static void makesNothing(String what, Calls calls) {
        run(calls);
        long made = run(calls);
        Check.same(what + " make objects of " + made + " bytes", made < MOST, true);
    }

    private static long run(Calls calls) {
        ThreadMXBean thread = (ThreadMXBean) ManagementFactory.getThreadMXBean();
        long before = thread.getThreadAllocatedBytes(Thread.currentThread().getId());
        for (int i = 0; i < CALLS; i++) {
            calls.call(i);
        }
        return thread.getThreadAllocatedBytes(Thread.currentThread().getId()) - before;
    }
}
