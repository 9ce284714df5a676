import java.lang.management.ManagementFactory;

/** All calls of one object have to live in one room, so what the dearest ones make is measured. */
public final class RoomTest {
    /** Some 7.3 million elements of four bytes are the room of one run; a tenth of it must do. */
    private static final long ROOM = 7_300_000L * 4 / 10;

    private static final com.sun.management.ThreadMXBean BEAN =
        (com.sun.management.ThreadMXBean) ManagementFactory.getThreadMXBean();

    private static long made() {
        return BEAN.getThreadAllocatedBytes(Thread.currentThread().getId());
    }

    private static AlignedRuns dearest() {
        AlignedRuns x = new AlignedRuns();
        for (int i = 0; i < 4; i++) {
            Made.column(x, "equal 200x200x200x200 of 200");
        }
        for (int i = 0; i < 4; i++) {
            x.many(375, i, 199 - i, 3 * i, 0);
        }
        return x;
    }

    private static void calls(AlignedRuns x, byte[] question) {
        for (int i = 0; i < 20; i++) {
            Check.put(x, question);
            x.ask(i % 6, question.length);
            x.told(5);
            x.ordered(0, 1);
            x.readings(0, 0);
            x.foretold(0, 0, 198, 2);
            x.mode(0, 6, 0);
            x.would(1, 0, 6, 1);
            x.thrift(200, 4, 0);
            x.swift(200, 24, 0);
            x.result(6, 7);
            x.heaviest(0, 0);
        }
    }

    public static void main(String[] args) {
        byte[] question = Check.bytesOf("or(and(le(0,198),ge(1,150),in(2,3,197)),xor(eq(0,3),le(3,190)),not(less(le(1,180),lt(2,170))))");
        calls(dearest(), question);
        long before = made();
        AlignedRuns x = dearest();
        long behindMaking = made();
        calls(x, question);
        long behindCalls = made();
        Check.due("room of making", true, () -> behindMaking - before < ROOM);
        // The test's own feeding makes some arrays; the calls themselves make none.
        Check.due("room of calls " + (behindCalls - behindMaking), true, () -> behindCalls - behindMaking < 20_000);
        long empty = made();
        new AlignedRuns();
        long one = made();
        Check.due("room of an empty object " + (one - empty), true, () -> one - empty < 40_000);
        Check.end("RoomTest");
    }
}
