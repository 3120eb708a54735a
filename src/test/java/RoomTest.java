import java.lang.management.ManagementFactory;

/** The room that a run of 512 calls takes: the object itself, and nothing for the calls. */
public final class RoomTest {
    private static final com.sun.management.ThreadMXBean THREADS = (com.sun.management.ThreadMXBean) ManagementFactory.getThreadMXBean();

    public static void main(String[] args) {
        long id = Thread.currentThread().getId();
        busyRun();
        long before = THREADS.getThreadAllocatedBytes(id);
        long between = THREADS.getThreadAllocatedBytes(id);
        long sum = busyRun();
        long taken = THREADS.getThreadAllocatedBytes(id) - between - (between - before);
        System.out.println("a run of 512 calls took " + taken + " bytes");
        Run.that("a run takes less than 20000 bytes", taken < 20000);
        Run.that("the run found something", sum > 0);
        Run.end("RoomTest");
    }

    /** The dearest calls on a paper that changes all the time. */
    private static long busyRun() {
        PointingNotes notes = new PointingNotes();
        String text = "AB1r05=2s10@99,CD2s20;a0A,A,i,C;AB1r05;i;AC3r01;a2A;EF4s04;a6E,i";
        for (int i = 0; i < text.length(); i++) notes.write(text.charAt(i));
        long sum = notes.paper();
        for (int calls = text.length() + 1; calls + 12 <= 512; calls += 12) {
            sum += notes.move(calls % 8, calls / 8 % 8, calls % 2);
            sum += notes.share(calls % 8, true);
            sum += notes.lost(calls % 11, false);
            sum += notes.drawn(20);
            sum += notes.judge(4, 1021103161005001L);
            sum += notes.print(1, -1);
            sum += notes.keep(0);
            sum += notes.fault();
            sum += notes.see(1, 1, 0);
            sum += notes.which(0);
            sum += notes.table(1);
            sum += notes.aCase(0, 3);
        }
        return sum;
    }
}
