import java.lang.management.ManagementFactory;

/** What a run makes is little: an object has its rows from its constructor on, and no call makes any. */
public final class RoomTest {
    private static final com.sun.management.ThreadMXBean ROOM =
            (com.sun.management.ThreadMXBean) ManagementFactory.getThreadMXBean();

    private RoomTest() {
    }

    public static void main(String[] args) {
        BreadScribes warm = Check.with("man a due 3 by 4;", "loop 99; any; end;");
        calls(warm);
        long before = made();
        BreadScribes x = new BreadScribes();
        Check.due("a new object in 200,000 bytes", made() - before < 200_000, true);
        Check.bakery(x, "store 1 times 50; man a due 3 by 4;");
        Check.days(x, "loop 99; any; end;");
        before = made();
        calls(x);
        Check.due("dear calls in 1,000 bytes", made() - before < 1_000, true);
        Check.end("RoomTest");
    }

    private static long made() {
        return ROOM.getThreadAllocatedBytes(Thread.currentThread().getId());
    }

    private static void calls(BreadScribes x) {
        for (int i = 0; i < 10; i++) {
            x.feed(0x616e793b, 0x20202020, 0x616e793b, 0x20202020, 0x616e793b);
            x.days(20);
            x.kindestAt(7, 27, 0);
            x.ways(7, 27, 5);
            x.fewestAt(29, 30, 0);
            x.ask(4, 5, 4);
            x.fill(0);
            x.reach(30);
            x.plateMove(((1 << 12) - 1) << 18);
            x.luck(((1 << 12) - 1) << 18, 6, 1, 2);
            x.burnt(12, 6);
            x.mean(0, 20);
            x.mark();
            x.live(i);
            x.back();
            x.greedyAt(27, 29, 4);
            x.worth();
        }
    }
}
