import java.lang.management.ManagementFactory;

/** All calls of a run live in one room: only the constructor may take much of it. */
final class RoomTests {
    private RoomTests() {
    }

    static void run() {
        callsOf(new CliffSerial());
        CliffSerial x = new CliffSerial();
        com.sun.management.ThreadMXBean threads =
                (com.sun.management.ThreadMXBean) ManagementFactory.getThreadMXBean();
        long id = Thread.currentThread().getId();
        long before = threads.getThreadAllocatedBytes(id);
        callsOf(x);
        long bytes = threads.getThreadAllocatedBytes(id) - before;
        Check.holds("512 calls made " + bytes + " bytes of objects", bytes < 20_000);
    }

    /** 512 calls of all kinds. */
    private static void callsOf(CliffSerial x) {
        for (int i = 0; i < 16; i++) {
            x.append('a' + i % 6);
            x.append('9');
            x.append('!');
            x.append('9');
            x.read();
            x.insert(0, 100, 50, i % 6, 9);
            x.change(0, 3, 8);
            x.setWeek(i, 1, 0);
            x.setNumber(0, 300);
            x.ask(10);
            x.set(1);
            x.ask(11);
            x.mend();
            x.unset();
            x.take(i % 2);
            x.plan(2);
            x.planned(0, 1);
            x.plans();
            x.mostCut();
            x.tooHigh();
            x.why(2);
            x.cutFrom(1, 0);
            x.since(0);
            x.strand(0, 1);
            x.scene(0, 6);
            x.week(0, 2);
            x.count(9);
            x.restore(i % 2);
            x.undo();
            x.print();
            x.skip();
            x.clearText();
        }
    }
}
