import com.sun.management.ThreadMXBean;
import java.lang.management.ManagementFactory;

/** All calls of a run live in one room: what an object makes, and what its dearest calls make, stays small. */
final class RoomTest {
    private static final long MOST_BYTES = 4_000_000;

    public static void main(String[] args) {
        ThreadMXBean room = (ThreadMXBean) ManagementFactory.getThreadMXBean();
        long thread = Thread.currentThread().getId();
        heavyRun(new int[1], room, thread);
        long before = room.getThreadAllocatedBytes(thread);
        int[] calls = new int[1];
        long afterData = heavyRun(calls, room, thread);
        long after = room.getThreadAllocatedBytes(thread);
        Bench.due("a run makes " + (after - before) + " bytes, few enough", after - before <= MOST_BYTES, true);
        Bench.due("calls on sealed data made " + (after - afterData) + " bytes", after - afterData <= 10_000, true);
        Bench.due("calls: " + calls[0], calls[0] <= 512, true);
        Bench.finish();
    }

    /** Answers what had been made when the data were sealed. */
    private static long heavyRun(int[] calls, ThreadMXBean room, long thread) {
        TextAtlas x = new TextAtlas();
        lines(x, calls);
        x.seal();
        long sealed = room.getThreadAllocatedBytes(thread);
        x.add(0, 0x41);
        x.add(1, 0x42);
        for (int i = 0; i < 10; i++) {
            x.join(0, 0, 0, 2);
            x.join(1, 1, 1, 2);
        }
        x.part(2, 0, 0, 900);
        x.join(0, 0, 2, 2);
        calls[0] += 26;
        for (int i = 0; i < 40; i++) {
            x.change(1, 0, i % 4, i % 3);
            x.normal(2, 0, i % 4);
            x.key(0, 3, true);
            x.compare(0, 1, 4, true);
            x.match(0, 1, i % 3);
            x.next(0, 1, 5, true);
            calls[0] += 6;
        }
        return sealed;
    }

    private static void lines(TextAtlas x, int[] calls) {
        for (int i = 0; i < 100; i++) {
            feed(x, String.format("%04X;Lu;0;;;%04X;", 0x41 + i, 0x41 + i));
            x.line(0);
            calls[0] += 2;
        }
    }

    private static void feed(TextAtlas x, String line) {
        String full = String.format("%-20s", line);
        int[] ints = new int[5];
        for (int i = 0; i < 20; i++) {
            ints[i / 4] = ints[i / 4] << 8 | full.charAt(i);
        }
        x.feed(ints[0], ints[1], ints[2], ints[3], ints[4]);
    }
}
