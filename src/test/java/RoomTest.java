import java.lang.management.ManagementFactory;
import java.util.function.IntConsumer;

/** All calls of a run live in one room: what hundreds of each make stays small, whatever they answer. */
public final class RoomTest {
    private static final int CALLS = 480;
    /** Some 600,000 objects and 7.3 million elements are the room; this is a hundredth part of it, of ints. */
    private static final long MOST_BYTES = 292_000;

    private static final String FULL = "devices 5;block 1 1 input 0;block 1 1 pid 50 20 man back;"
            + "block 2 1 pid 70 10 man back;block 3 1 output 0 30;block 2 1 input 1;block 4 1 pick most;"
            + "block 4 1 pick least;block 4 1 pid 30 30 man back;block 4 1 output 1 20;block 3 1 pick most;"
            + "link 1 2 set;link 0 1 value;link 4 2 value;link 7 9 value;link 4 5 other;link 5 6 value;link 0 6 other;"
            + "link 6 7 value;link 7 8 set;link 4 9 other;link 0 5 value;link 2 3 set;plant 0 0 90 2;plant 1 1 100 3;";

    private RoomTest() {
    }

    public static void main(String[] args) {
        small("a new object", k -> {
            if (k % 40 == 0) {
                new CascadeBus();
            }
        });
        CascadeBus x = Check.told(FULL);
        small("bus", k -> {
            x.feed(0x6f6c6420, 0x313b6f6c, 0x64203120, 0x20202020, 0x20202020);
            x.bus(k % 2 == 0 ? 6 : 9);
        });
        CascadeBus y = Check.told(FULL);
        small("target", k -> y.target(3, k % 4));
        small("hand", k -> y.hand(0, k));
        small("power", k -> y.power(k % 6, k % 4 < 2));
        small("broken", k -> y.broken(k % 5, k % 2 == 0));
        small("cycles", k -> y.cycles(k % 6));
        small("undo", k -> y.undo());
        small("image", k -> y.image());
        small("restore", k -> y.restore());
        small("note, forget", k -> {
            y.note(k % 10, 1 + k % 20, k % 4);
            if (k % 9 == 0) {
                y.forget();
            }
        });
        CascadeBus z = Check.told(FULL);
        z.cycles(5);
        small("then", k -> z.then(k % 10, 60, k % 6));
        small("first", k -> z.first(k % 10));
        small("jump", k -> z.jump(k % 10, 60));
        small("lost", k -> z.lost(k % 5, 30));
        small("toRide", k -> z.toRide());
        small("toTune", k -> z.toTune(7, 0, 30));
        small("slack", k -> z.slack(k % 10));
        small("fits", k -> z.fits());
        small("look", k -> z.look(k % 2));
        small("years", k -> z.years(k, 30, k % 3));
        small("count, block, link, plant", k -> {
            z.count(k % 16);
            z.block(k % 10, k % 14);
            z.link(k % 12, k % 15);
            z.plant(k % 4, k % 3);
        });
        Check.end("RoomTest");
    }

    private static void small(String what, IntConsumer call) {
        com.sun.management.ThreadMXBean threads =
                (com.sun.management.ThreadMXBean) ManagementFactory.getThreadMXBean();
        long me = Thread.currentThread().getId();
        call.accept(0);
        long before = threads.getThreadAllocatedBytes(me);
        for (int k = 0; k < CALLS; k++) {
            call.accept(k);
        }
        long made = threads.getThreadAllocatedBytes(me) - before;
        if (made > MOST_BYTES) {
            System.out.println(what + " made " + made + " bytes");
        }
        Check.due(what + ": what " + CALLS + " calls make is small", made <= MOST_BYTES, true);
    }
}
