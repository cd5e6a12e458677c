import java.lang.management.ManagementFactory;

/** All calls of a run live in one room: a call makes nothing that it need not, whatever it is asked. */
public final class RoomTest {
    private static final int CALLS = 512;

    private RoomTest() {
    }

    public static void main(String[] args) {
        com.sun.management.ThreadMXBean bean = (com.sun.management.ThreadMXBean) ManagementFactory.getThreadMXBean();
        long thread = Thread.currentThread().getId();
        dearRun(new TermRows());
        long start = bean.getThreadAllocatedBytes(thread);
        TermRows rows = new TermRows();
        long made = bean.getThreadAllocatedBytes(thread);
        dearRun(rows);
        long end = bean.getThreadAllocatedBytes(thread);
        Check.due("a new object takes over 40000 bytes: " + (made - start), false, made - start > 40000);
        Check.due("512 calls take over 2000 bytes: " + (end - made), false, end - made > 2000);
        Check.end();
    }

    /** Rows that all hang on row 0, changed and asked again and again. */
    private static void dearRun(TermRows rows) {
        rows.root(0, 0, 2, 1);
        for (int row = 1; row < 10; row++) {
            rows.join(row, row % 4, row - 1, 0);
        }
        for (int i = 10; i < CALLS; i += 8) {
            rows.root(0, i, i % 97 + 2, 1);
            rows.count(4);
            rows.say(0, 60);
            rows.tails(0, 0, 0);
            rows.would(0, 59, 1, 2, 3, 4);
            rows.feed(0x6d616e79, 0x20313d31, 0x616e6420, 0x323d3220, 0x20202020);
            rows.ask(0, 15);
            rows.undo();
        }
    }
}
