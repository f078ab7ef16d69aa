import java.lang.management.ManagementFactory;

/** All calls of a run share one room: the dearest calls must make next to nothing anew. */
public final class RoomTest {
    public static void main(String[] args) {
        com.sun.management.ThreadMXBean threads =
            (com.sun.management.ThreadMXBean) ManagementFactory.getThreadMXBean();
        long self = Thread.currentThread().getId();
        used(threads, self, new Bench(), 5);
        long before = threads.getThreadAllocatedBytes(self);
        Bench b = new Bench(Grower.LAWS);
        long made = threads.getThreadAllocatedBytes(self) - before;
        // An int takes 4 bytes; 512 objects of 14,000 elements still fit into the room.
        Bench.due("a new object is small: " + made, made < 4 * 14_000 ? 1 : 0, 1);

        b.enters("PAA\\..b..b..b00..b00..b..b000");
        b.enters("A..b..b..baa..baa..b..baa..baa");
        b.text("SPAAB.0.0.0.0.0.0.0.0.0a,#0.c#1");
        long asked = used(threads, self, b, 512);
        Bench.due("given() and its like make nothing: " + asked, asked < 4096 ? 1 : 0, 1);

        before = threads.getThreadAllocatedBytes(self);
        for (int i = 0; i < 512; i++) {
            b.terms.type('1');
            b.terms.type('*');
            b.terms.enters();
            b.terms.drops(2);
            b.terms.undo();
            b.terms.undo();
            b.terms.clear();
            b.terms.laws();
        }
        long entered = threads.getThreadAllocatedBytes(self) - before;
        Bench.due("enters() and laws() make little: " + entered, entered < 1_000_000 ? 1 : 0, 1);
        Bench.end("RoomTest");
    }

    private static long used(com.sun.management.ThreadMXBean threads, long self, Bench b, int calls) {
        long before = threads.getThreadAllocatedBytes(self);
        for (int i = 0; i < calls; i++) {
            b.terms.given(0);
            b.terms.found(0);
            b.terms.same();
            b.terms.unseen();
        }
        return threads.getThreadAllocatedBytes(self) - before;
    }
}
