import java.lang.management.ManagementFactory;
import java.util.NoSuchElementException;
import java.util.Random;

/**
 * The room that all calls of one object share, and that no call ever throws by itself: the
 * greatest workshop, the dearest calls over and over, and wild arguments in every state.
 */
public final class RoomTest {
    /** 7.3 million elements of at least four bytes; a tenth of that is plenty. */
    private static final long MOST_BYTES = 3_000_000L;
    private static final int[] WILD = {
        Integer.MIN_VALUE, -1000000, -2, -1, 0, 1, 2, 3, 4, 5, 6, 7, 8, 9, 10, 29, 30, 31, 32, 33,
        39, 40, 59, 60, 63, 64, 199, 200, 201, 255, 256, 512, 1000, 1001, 10000, 10001, 1000000,
        1000001, 1000000000, Integer.MAX_VALUE
    };
    private static final Due due = new Due("RoomTest");

    public static void main(String[] args) {
        room();
        allEdges();
        for (int seed = 0; seed < 300; seed++) {
            wildCalls(seed);
        }
        due.end();
    }

    private static SetWorkshop greatest() {
        SetWorkshop x = new SetWorkshop();
        for (int i = 0; i < 8; i++) {
            x.craft(4);
        }
        for (int i = 0; i < 40; i++) {
            x.machine();
        }
        for (int i = 0; i < 200; i++) {
            x.job(i % 8, 1 + i * 37 % 91, i * 7 % 5);
        }
        return x;
    }

    private static void room() {
        com.sun.management.ThreadMXBean meter =
            (com.sun.management.ThreadMXBean) ManagementFactory.getThreadMXBean();
        long id = Thread.currentThread().getId();
        meter.getThreadAllocatedBytes(id);
        long before = meter.getThreadAllocatedBytes(id);
        SetWorkshop x = greatest();
        long answers = 0;
        for (int i = 1; i < 200; i++) {
            x.after(i, i / 2);
            answers += x.run(1000000) + x.critical(i) + x.part(i, 0) + x.result(i);
        }
        long bytes = meter.getThreadAllocatedBytes(id) - before;
        due.is("bytes made: " + bytes + " (answers " + answers + ")", bytes < MOST_BYTES, true);
    }

    /** Every pair joined, every machine and stock named: far beyond 512 calls, nothing breaks. */
    private static void allEdges() {
        SetWorkshop x = greatest();
        for (int i = 0; i < 200; i++) {
            for (int k = 0; k < i; k++) {
                due.is("after", x.after(i, k), 0);
            }
            for (int k = 0; k < 40; k++) {
                due.is("needs", x.needs(i, k), 0);
            }
            for (int k = 0; k < 60; k++) {
                due.is("uses", x.uses(i, k, 1000000), 0);
                due.is("gives", x.gives(i, k, 1000000), 0);
            }
            for (int k = 0; k < 30; k++) {
                x.piece(i, 1);
            }
            x.body(i, 1 + i % 5, 30, 1);
        }
        for (int k = 0; k < 60; k++) {
            x.stock(k, 1000000);
        }
        due.is("run", x.run(1000000), 0);
        due.is("events", x.count(5), 400);
        due.is("chain", x.count(7), 200);
        due.is("left", x.left(59), 1000000);
        due.is("had", x.had(39), 199);
        // Boards, parts above 0, what number 1 has, pairs, the sum of 30 times 1.3 rounded up.
        int[] results = {2, 30, 1, 15, 60};
        for (int i = 0; i < 200; i++) {
            due.is("result", x.result(i), results[i % 5]);
        }
        x.job(0, 1, 0);
        x.plan(0, 1, 1);
        due.is("the first fails", x.run(1000000), 1);
        due.is("all comes back but what was at work", x.left(59), 0);
        due.is("the last is cancelled", x.state(199, 0), 3);
        x.clearPlan();
        due.is("the second is interrupted", x.run(10), 2);
        due.is("what comes back", x.left(59), 1000000 - 1000000 * 9 / 38);
    }

    private static void wildCalls(int seed) {
        Random random = new Random(seed);
        SetWorkshop x = seed % 3 == 0 ? new SetWorkshop() : greatest();
        for (int i = 0; i < 1500; i++) {
            int[] v = new int[4];
            for (int k = 0; k < 4; k++) {
                v[k] = random.nextInt(3) == 0 ? random.nextInt(200)
                    : WILD[random.nextInt(WILD.length)];
            }
            int call = random.nextInt(31);
            try {
                due.is("wild call", wildCall(x, call, v) > Long.MIN_VALUE, true);
            } catch (NoSuchElementException e) {
                due.is("call " + call + " may throw", call >= 16 && call < 29, true);
            } catch (RuntimeException e) {
                due.tell("seed " + seed + ", call " + call + " threw " + e);
            }
        }
    }

    private static long wildCall(SetWorkshop x, int call, int[] v) {
        switch (call) {
            case 0: return x.craft(v[0]);
            case 1: return x.machine();
            case 2: return x.stock(v[0], v[1]);
            case 3: return x.job(v[0], v[1], v[2]);
            case 4: return x.after(v[0], v[1]);
            case 5: return x.needs(v[0], v[1]);
            case 6: return x.uses(v[0], v[1], v[2]);
            case 7: return x.gives(v[0], v[1], v[2]);
            case 8: return x.body(v[0], v[1], v[2], v[3]);
            case 9: return x.piece(v[0], v[1]);
            case 10: return x.strip(v[0]);
            case 11: return x.plan(v[0], v[1], v[2]);
            case 12: return x.clearPlan();
            case 13: return x.run(v[0]);
            case 14: return x.again() ? 1 : 0;
            case 15: return x.failures() + x.audit();
            case 16: return x.state(v[0], v[1]);
            case 17: return x.result(v[0]);
            case 18: return x.part(v[0], v[1]);
            case 19: return x.check(v[0]);
            case 20: return x.failure(v[0], v[1]);
            case 21: return x.left(v[0]);
            case 22: return x.had(v[0]);
            case 23: return x.idle(v[0]);
            case 24: return x.slack(v[0]);
            case 25: return x.leans(v[0], v[1]) ? 1 : 0;
            case 26: return x.state(v[0], 7);
            case 27: return x.part(v[0], 29);
            case 28: return x.failure(v[0] & 7, 3);
            case 29: return x.log(v[0], v[1]) + (long) x.critical(v[0]);
            default: return x.count(v[0]);
        }
    }
}
