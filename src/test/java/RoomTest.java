import java.lang.management.ManagementFactory;

/** All that is made is made by the constructor: the calls themselves make nothing. */
public final class RoomTest {
    private static final com.sun.management.ThreadMXBean MEMORY =
            (com.sun.management.ThreadMXBean) ManagementFactory.getThreadMXBean();
    private static final String BIG = "field z;thread a{q=z;if q==0{span{q=0;}}else{q=0;}check 0<1;}thread b{z=1;"
            + "check 0<1;".repeat(20) + "}thread c{" + "check 0<1;".repeat(22) + "}";
    private static final String BROKEN = "field f;lock k;thread a{lock k{f=1;}start zz;}thread b{lock k{f=2;}}";

    public static void main(String[] args) {
        byte[] big = Due.bytes(BIG);
        byte[] broken = Due.bytes(BROKEN);
        RaceLocks x = new RaceLocks();
        use(x, big, broken);
        long before = made();
        x = new RaceLocks();
        long object = made() - before;
        before = made();
        int calls = use(x, big, broken);
        long use = made() - before;
        System.out.println("an object takes " + object + " bytes, " + calls + " calls " + use);
        // the room is 7.3 million elements for all: an object of at most 250,000 leaves plenty
        Due.is("an object is small", object <= 1_000_000 ? 1 : 0, 1);
        Due.is("calls make nothing", use <= 1000 ? 1 : 0, 1);
        Due.close("RoomTest");
    }

    private static long made() {
        return MEMORY.getThreadAllocatedBytes(Thread.currentThread().getId());
    }

    private static int use(RaceLocks x, byte[] big, byte[] broken) {
        int calls = 0;
        for (int turn = 0; turn < 5; turn++) {
            Due.read(x, big);
            x.run();
            x.whole(0);
            x.show(2, 0);
            x.doubts();
            x.rings();
            x.meet(0, 0, 1, 0);
            x.guards(0);
            for (int state = 0; state < 50; state++) {
                x.thread(state, 0, 2);
                x.stuck(state);
                x.field(state, 0);
                x.owner(state, 0);
            }
            Due.read(x, broken);
            calls += 8 + 200 + 30;
        }
        return calls;
    }
}
