import com.sun.management.ThreadMXBean;
import java.lang.management.ManagementFactory;

/** Rule 12 of LANGUAGE.md: an object makes its rows when it is made, and no call makes any more. */
public final class RoomTest {
    private interface Call {
        long on(WinkPurses x);
    }

    private static final Check CHECK = new Check();
    private static final int MOST_OF_AN_OBJECT = 8192;
    private static final ThreadMXBean MEMORY = (ThreadMXBean) ManagementFactory.getThreadMXBean();

    /** All of the face, each with the numbers that make it longest. */
    private static final Call[] CALLS = {
        x -> x.set(0, 11), x -> x.list(0, 1203), x -> x.listed(0), x -> x.person(3, 20), x -> x.of(0, 6),
        x -> x.change(0, 3, 0), x -> x.price(4, 0, 7), x -> x.pay(0, 1, 99), x -> x.go(60), x -> x.now(1),
        x -> x.ahead(0, 6, 100), x -> x.rich(0, 9999), x -> x.owes(0), x -> x.even(), x -> x.forged(9999),
        x -> x.priceFor(0, 60), x -> x.rateFor(60), x -> x.kindFor(0, 60), x -> x.smallFor(2, 40), x -> x.strike(20),
        x -> x.coins(9999), x -> x.sheet(0, 16, 40), x -> x.write(0, 0, -1), x -> x.fits(0, 0), x -> x.paid(0, 0),
        x -> x.kinds(0, 0), x -> x.market(20), x -> x.odds(0, 9, 1), x -> x.seed(5), x -> x.wipe(),
        x -> x.feed('r' << 24 | 'a' << 16 | 't' << 8 | 'e', 4), x -> x.feed('9', 1), x -> x.text(),
        x -> x.feed('p' << 24 | 'a' << 16 | 'y' << 8 | '1', 4), x -> x.text(), x -> x.hold(0, 4), x -> x.as(0, 2),
        x -> x.copy(0, 0, 0, 1, 39), x -> x.load(0), x -> x.judge(0), x -> x.image(), x -> x.undo(), x -> x.tear(),
        x -> x.count(2), x -> x.status(-1), x -> x.undo(), x -> x.status(9),
    };

    public static void main(String[] args) {
        if (MEMORY.isThreadAllocatedMemorySupported() && MEMORY.isThreadAllocatedMemoryEnabled()) {
            // What the machine makes at a first use (classes, constant texts) is none of the calls' own.
            measure();
            measure();
            long atLast = measure();
            CHECK.due("bytes that the calls made", atLast, 0);
            long object = bytesOfAnObject();
            CHECK.dueTrue("an object is of " + object + " bytes", object <= MOST_OF_AN_OBJECT);
        } else {
            CHECK.dueTrue("this machine doesn't tell what is made", true);
        }
        CHECK.finish();
    }

    private static long measure() {
        WinkPurses x = Scene.fullTown();
        long before = MEMORY.getCurrentThreadAllocatedBytes();
        for (Call call : CALLS) {
            call.on(x);
        }
        return MEMORY.getCurrentThreadAllocatedBytes() - before;
    }

    private static long bytesOfAnObject() {
        long before = MEMORY.getCurrentThreadAllocatedBytes();
        WinkPurses x = new WinkPurses();
        long bytes = MEMORY.getCurrentThreadAllocatedBytes() - before;
        CHECK.due("a new object", x.count(6), 1);
        return bytes;
    }
}
