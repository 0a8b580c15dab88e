import com.sun.management.ThreadMXBean;
import java.lang.management.ManagementFactory;
import java.util.function.ToLongFunction;

/** What 512 calls make: rows are made by the constructor, and used again by each call. */
public final class RoomTest {
    private static final String FULL =
        "p4;p5;p6;p7;p8;p9;g040;g140;g240;g340;g441;g542;g643;g745;l01;l12;l23;l34;l15;l10;l12;l13;";
    private static final ThreadMXBean THREADS = (ThreadMXBean) ManagementFactory.getThreadMXBean();
    private static final long OBJECT = 64 * 1024;
    private static final long CALLS = 4 * 1024;
    private static final long TOSSES = 512 * 1024;

    private static long sum = 0;

    private RoomTest() {
    }

    public static void main(String[] args) {
        object();
        calls("clearing", x -> x.clearing(7), CALLS);
        calls("chain", x -> x.chain(5, 0, 7, 0), CALLS);
        calls("climb", x -> x.climb(5, 0), CALLS);
        calls("shortest", x -> x.shortest(1, -1), CALLS);
        calls("town", x -> x.town(0), CALLS);
        calls("towns", x -> x.towns(20, 1, 0), CALLS);
        calls("judge", x -> x.judge(1), CALLS);
        calls("cleared", NotInTheCoin::cleared, CALLS);
        calls("hasThen", x -> x.hasThen(7, 60), CALLS);
        calls("whatIs", x -> x.whatIs(1, 0, 0, 1), CALLS);
        calls("lent", x -> x.lent(1, 0, 0), CALLS);
        calls("market", x -> x.market(0, 0, 20, 1), CALLS);
        calls("mean", x -> x.mean(0, 1), CALLS);
        calls("two", x -> x.two(0, 5), CALLS);
        calls("image and restore", x -> x.image() + x.restore(), CALLS);
        calls("row", x -> x.row(2, 2, 100), CALLS);
        calls("copy", x -> x.copy(0, 0, 3, 0, 9), CALLS);
        calls("toss", x -> x.toss(4), TOSSES);
        Due.end();
        if (sum == 0) {
            System.out.println("no call answered anything");
        }
    }

    private static long made() {
        return THREADS.getThreadAllocatedBytes(Thread.currentThread().getId());
    }

    private static void within(String what, long bytes, long most) {
        Due.due(what + " made " + bytes + " bytes, at most " + most, bytes <= most ? 1 : 0, 1);
    }

    private static void object() {
        new NotInTheCoin();
        long before = made();
        NotInTheCoin x = new NotInTheCoin();
        long bytes = made() - before;
        within("a new object", bytes, OBJECT);
        sum += x.count(5);
    }

    private static void calls(String name, ToLongFunction<NotInTheCoin> asked, long most) {
        NotInTheCoin x = Due.townOf(FULL);
        Due.fillText(x, 0, "s01;s23;w60;");
        Due.fillRow(x, 1, Due.BYTES, 0, 1, 0, 1, 2, 0);
        Due.fillRow(x, 3, Due.BYTES, 0, 0, 0, 0, 0, 0, 0, 0, 0);
        x.keep(4, 1, 7, 9);
        sum += asked.applyAsLong(x);
        long before = made();
        for (int i = 0; i < 512; i++) {
            sum += asked.applyAsLong(x);
        }
        long bytes = made() - before;
        within("512 calls of " + name, bytes, most);
    }
}
