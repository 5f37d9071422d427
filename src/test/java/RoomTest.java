import java.lang.management.ManagementFactory;

/** The dearest calls make next to nothing: what a run makes stays far under the room that it has. */
public final class RoomTest {
    private static final com.sun.management.ThreadMXBean THREADS =
            (com.sun.management.ThreadMXBean) ManagementFactory.getThreadMXBean();

    public static void main(String[] args) {
        LakeBreath x = new LakeBreath();
        for (int i = 0; i < 10; i++) {
            x.layer(0, i, 90 * i, 0, 50 * i);
            x.reading(0, i, 90 * i);
        }
        for (int i = 0; i < 3; i++) {
            x.pipe(0, i, 20, 0);
        }
        for (int i = 0; i < 20; i++) {
            x.village(i, 10);
        }
        x.land(2, 1);
        dear(x);
        long made = made();
        for (int i = 0; i < 20; i++) {
            dear(x);
        }
        long each = (made() - made) / 20;
        // A RULE of 36 bytes: its object and its row, besides the texts that this test makes to feed it.
        Due.be("bytes made by ten dear calls: " + each, each < 4000, true);
        long before = made();
        new LakeBreath();
        long one = made() - before;
        Due.be("bytes made by a new object: " + one, one < 40000, true);
        Due.end();
    }

    private static long made() {
        return THREADS.getThreadAllocatedBytes(Thread.currentThread().getId());
    }

    private static void dear(LakeBreath x) {
        x.plan(0, 1);
        x.burst(0);
        x.until(0, 999);
        x.runOut(0, 30000);
        x.lost(0);
        Due.rule(x, "live if burst + full - height < 2 - 5");
        x.may(3);
        x.says(0, 2);
        x.repeal(0);
        x.known(0, 3, 0);
        x.check(0, 1, 1, 2, 3);
    }
}
