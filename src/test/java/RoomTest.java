import com.sun.management.ThreadMXBean;
import java.lang.management.ManagementFactory;
import java.util.function.IntConsumer;

/**
 * All calls of one run live in one room of 600,000 objects and 7.3 million fields and elements. A field
 * takes a byte at least and an object 16, so a run that takes less than 7.3 million bytes keeps to that.
 */
final class RoomTest {
    private static final long ROOM = 7_300_000;
    private static final int CALLS = 512;

    private static Peatland moor;

    private RoomTest() {
    }

    public static void main(String[] args) {
        ThreadMXBean threads = ManagementFactory.getPlatformMXBean(ThreadMXBean.class);
        if (threads == null || !threads.isThreadAllocatedMemorySupported()) {
            System.out.println("RoomTest: this machine does not tell what is allocated, nothing was looked at");
            return;
        }
        take(threads, "days", i -> passOrAsk());
        take(threads, "cases that are filed, or would have no square", RoomTest::fileCases);
        take(threads, "squares that move", RoomTest::moveSquares);
        take(threads, "rights, drains and sheep", RoomTest::registerAndDig);
        take(threads, "all that is asked", RoomTest::ask);
        Check.end("RoomTest");
    }

    /** The object too, and the exceptions with all that the machine notes in them. */
    private static void take(ThreadMXBean threads, String what, IntConsumer call) {
        long before = threads.getThreadAllocatedBytes(Thread.currentThread().getId());
        moor = new Peatland();
        for (int i = 0; i < CALLS; i++) {
            tryCall(call, i);
        }
        long taken = threads.getThreadAllocatedBytes(Thread.currentThread().getId()) - before;
        Check.due(what + " take " + taken + " bytes", taken > ROOM, false);
    }

    private static void tryCall(IntConsumer call, int i) {
        try {
            call.accept(i);
        } catch (IndexOutOfBoundsException | IllegalArgumentException | IllegalStateException e) {
            if (!Check.isThrownBy("Peatland", e)) {
                Check.due("thrown by the program: " + e, false, true);
            }
        }
    }

    private static void passOrAsk() {
        if (moor.today() <= 19800) {
            moor.pass(200);
        } else {
            moor.rain(60);
        }
    }

    private static void fileCases(int i) {
        if (i < 12) {
            moor.survey(i % 2, 0, 99);
        } else {
            moor.file(i % 3, false, 0, 99);
        }
    }

    /** All squares go from case to case and back, and from parcel to parcel. */
    private static void moveSquares(int i) {
        if (i < 2) {
            moor.survey(i, 0, 99);
        } else if (i < 18) {
            moor.file(i % 2, false, 0, 99);
        } else if (i < 18 + 16 * 9) {
            int number = (i - 18) / 9;
            moveByCase(number, (i - 18) % 9);
        } else if (i % 2 == 0) {
            moor.grant(moor.parcels() - 1, 0, 99, 5);
        } else {
            moor.merge(moor.parcels() - 1, moor.parcels() - 2);
        }
    }

    /** GRANTED at the stage 0, REFUSED at 1, GRANTED at 2. */
    private static void moveByCase(int number, int step) {
        switch (step % 3) {
            case 0:
                moor.evidence(number, step != 3, 9);
                return;
            case 1:
                moor.decide(number);
                return;
            default:
                moor.appeal(number);
        }
    }

    private static void registerAndDig(int i) {
        switch (i % 5) {
            case 0:
                moor.register(i % 3, 0, i % 12, 9);
                return;
            case 1:
                moor.release(i / 5);
                return;
            case 2:
                moor.dig(i / 5, i / 5 + 1);
                return;
            case 3:
                moor.graze(i % 12, 0, 1);
                return;
            default:
                moor.fill(0);
        }
    }

    private static void ask(int i) {
        switch (i % 6) {
            case 0:
                moor.chain(i % 100, 0);
                return;
            case 1:
                moor.square(i % 100, 2);
                return;
            case 2:
                moor.water(i % 4);
                return;
            case 3:
                moor.disputed(i % 100);
                return;
            case 4:
                moor.area(0);
                return;
            default:
                moor.sheep(i % 12, 0);
        }
    }
}
