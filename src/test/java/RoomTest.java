import java.lang.management.ManagementFactory;

/** The room that a run takes: rows are made with the object, and calls make next to nothing. */
public final class RoomTest {
    /** 7.3 million fields and elements, were they all of the largest kind. */
    private static final long ROOM = 7_300_000L * 8;

    public static void main(String[] args) {
        com.sun.management.ThreadMXBean threads =
                (com.sun.management.ThreadMXBean) ManagementFactory.getThreadMXBean();
        long me = Thread.currentThread().getId();
        everyCall(new PowerChains());
        long before = threads.getThreadAllocatedBytes(me);
        PowerChains x = new PowerChains();
        for (int i = 1; i < 512; i++) {
            x = new PowerChains();
        }
        long objects = threads.getThreadAllocatedBytes(me) - before;
        Due.is("512 objects (" + objects + " bytes) take less than half of the room", objects * 2 < ROOM ? 1 : 0, 1);
        before = threads.getThreadAllocatedBytes(me);
        for (int i = 0; i < 512; i++) {
            everyCall(x);
        }
        long calls = threads.getThreadAllocatedBytes(me) - before;
        Due.is("512 of each call (" + calls + " bytes) take little", calls < 300_000 ? 1 : 0, 1);
        Due.end();
    }

    private static void everyCall(PowerChains x) {
        // base a;t=a^9;want t;
        x.feed(0x62617365, 0x20613B74, 0x3D615E39, 0x3B77616E, 0x7420743B);
        x.text(20);
        x.count(7);
        x.node(2, 5);
        x.exponent(1, 0);
        x.wanted(0);
        x.run(2, 1000, 2, 0, 0, 0);
        x.add(1, 1);
        x.want(0, 2);
        x.prune();
        x.fold();
        x.dual();
        x.dualLong();
        x.sequence(4, 9999, 5083, 777, 6);
        x.vector(4, 9999, 5083, 777, 6);
        x.save(0);
        x.load(0);
        x.same(0);
        x.undo();
        x.method(9999, 2);
        x.chain(9999, 3, 4);
        x.best(9999);
        x.star(9999, 1);
        x.lower(9999, 1);
        x.search(127, 1000);
        x.found(3);
        x.isChain(6, 2, 3, 4, 5, 6);
    }
}
