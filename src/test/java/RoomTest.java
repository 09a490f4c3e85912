import com.sun.management.ThreadMXBean;
import java.lang.management.ManagementFactory;

/** The largest house, asked dear questions 512 times, half of them behind a change: one room holds it all. */
final class RoomTest {
    private static final Due DUE = new Due();
    /** 7.3 million elements of four bytes are the room; a tenth of it is more than enough. */
    private static final long MOST_BYTES = 2_900_000;
    private static final int MOST_CALLS = 512;

    public static void main(String[] args) {
        ThreadMXBean machine = (ThreadMXBean) ManagementFactory.getThreadMXBean();
        largest();
        long ahead = machine.getThreadAllocatedBytes(Thread.currentThread().getId());
        largest();
        long bytes = machine.getThreadAllocatedBytes(Thread.currentThread().getId()) - ahead;
        System.out.println("one run made " + bytes + " bytes");
        DUE.yes("bytes made: " + bytes, bytes < MOST_BYTES);
        DUE.end("RoomTest");
    }

    private static void largest() {
        LockedHouse x = new LockedHouse();
        int calls = 0;
        for (int p = 0; p < 9; p++) {
            x.prop(3, 0);
            x.goal(Math.min(p, 5), 2);
            calls += 2;
        }
        for (int s = 0; s < 24; s++) {
            x.step(s % 2, 1, 1 + s * 4, 0);
            x.give(s, s % 9, s % 3);
            x.give(s, (s + 1) % 9, 2);
            calls += 3;
        }
        DUE.is("ALL", x.count(3), 19683);
        for (int n = 0; calls < MOST_CALLS; n++) {
            x.hands(1 + n % 9);
            ask(x, n);
            calls += 2;
        }
    }

    private static void ask(LockedHouse x, int n) {
        switch (n % 7) {
            case 0 -> DUE.yes("way", x.way(n * 37 % 19683) >= LockedHouse.SPENT);
            case 1 -> DUE.is("longest", x.longest(), LockedHouse.SPENT);
            case 2 -> DUE.yes("must", x.must(8, 2, 7, 1) >= 0);
            case 3 -> DUE.yes("trap", x.trap() >= 0);
            case 4 -> DUE.yes("liars", x.liars() >= 0);
            case 5 -> DUE.yes("lost", x.lost() >= 0);
            default -> DUE.yes("idle", x.idle() >= 0);
        }
    }
}
