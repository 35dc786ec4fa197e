import java.lang.management.ManagementFactory;

/** All calls of one run share one room: a call makes no objects, and an object is small. */
final class RoomTest {
    private static final Check check = new Check("RoomTest");
    private static final com.sun.management.ThreadMXBean THREADS =
            (com.sun.management.ThreadMXBean) ManagementFactory.getThreadMXBean();

    private static int answers = 0;

    public static void main(String[] args) {
        CaptainTides[] objects = new CaptainTides[100];
        for (int i = 0; i < objects.length; i++) {
            objects[i] = Check.write(new CaptainTides(), "0:p1d1f0h0;1:p5d2f3h1;2:h0f0p11d1");
        }
        everyCall(objects[0]);
        long before = room();
        for (int i = 0; i < 500; i++) {
            everyCall(objects[i % objects.length]);
        }
        long ofCalls = room() - before;
        check.isTrue("500 rounds of all calls take " + ofCalls + " bytes", ofCalls < 20000);

        before = room();
        for (int i = 0; i < 1000; i++) {
            answers += new CaptainTides().count(4);
        }
        long ofObjects = (room() - before) / 1000;
        check.isTrue("an object takes " + ofObjects + " bytes", ofObjects < 6000);
        check.isTrue("no answers", answers != 0);
        check.end();
    }

    private static long room() {
        return THREADS.getThreadAllocatedBytes(Thread.currentThread().getId());
    }

    private static void everyCall(CaptainTides x) {
        answers += x.captain(1, 2, 5) + x.captains() + x.truth(4) + x.set(0, 0) + x.lot(9) + x.sail(3);
        answers += x.type(';') + x.clearText() + x.fault();
        for (int i = 0; i < 33; i++) {
            answers += x.type("0:p1d1f0h0;1:p5d2f3h1;2:h0f0p11d1".charAt(i));
        }
        answers += x.undo() + x.keep() + x.restore();
        answers += x.captainOf(0, 4) + x.printed(0, 1, 0) + x.level(3, 20, 1) + x.uses(0, 9) + x.clash(0, 2);
        answers += x.hours(1, 2) + x.count(3) + (int) x.made();
        answers += x.ifSailed(5) + x.bestHour(1) + x.bestPhase(1);
    }
}
