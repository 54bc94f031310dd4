import com.sun.management.ThreadMXBean;
import java.lang.management.ManagementFactory;

/** A run's room is small: an object is made of few rows, and the dearest calls make nothing. */
public final class RoomTest {
    private static final long OBJECT = 80_000, CALLS = 60_000;
    private static final ThreadMXBean BEAN = (ThreadMXBean) ManagementFactory.getThreadMXBean();

    private static long taken() {
        return BEAN.getThreadAllocatedBytes(Thread.currentThread().getId());
    }

    private static long use(OddPayments x) {
        long sum = 0;
        StringBuilder b = new StringBuilder("window 50000;decay 1;look 1;block 9;");
        for (int i = 0; i < 12; i++) {
            b.append("rule ").append(i + 1).append(" if amount>").append(i * 8).append(" and far<9;");
        }
        sum += Due.read(x, b.toString());
        for (int i = 0; i < 120; i++) {
            sum += x.pay(999 - i, 70000 - 100 * i, i % 20, (i + 1) % 20, i + 1, i % 4);
            if (i % 3 != 0) {
                sum += x.verdict(999 - i, i % 2);
            }
        }
        sum += x.mark(3, 1);
        return sum;
    }

    private static long ask(OddPayments x) {
        long sum = 0;
        for (int i = 0; i < 10; i++) {
            sum += x.mark(5, i % 2) + x.learnt(i % 4) + x.bestSetting(i % 3) + x.queue(i) + x.acts(3) + x.judged(990, 1, 3);
            sum += x.setting(3, 9) + x.costs(77, 1) + x.drift(1, 66000, 67000, 69000, 0) + x.ask(991, 1) + x.count(6) + x.would(992, 5);
            sum += x.sheet(i % 8, i % 3, 120) + x.copy(0, 0, 0, 1, 5) + x.batch(0, 0, 20) + x.feature(993, 8, 0) + x.rules();
        }
        return sum;
    }

    public static void main(String[] args) {
        long sum = use(new OddPayments()) + ask(new OddPayments());
        long start = taken();
        OddPayments x = new OddPayments();
        long made = taken() - start;
        sum += use(x);
        start = taken();
        sum += ask(x);
        long called = taken() - start;
        System.out.println("an object takes " + made + " bytes, 170 calls " + called + " (" + sum + ")");
        if (made > OBJECT || called > CALLS) {
            System.out.println("that is too much");
            System.exit(1);
        }
    }
}
