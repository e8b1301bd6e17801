import com.sun.management.ThreadMXBean;
import java.lang.management.ManagementFactory;
import java.util.Map;
import java.util.TreeMap;
import java.util.function.ToIntFunction;

/**
 * What the dearest runs make has room: each field and element is at least one byte long and each object
 * at least sixteen, so fewer bytes than elements are allowed keep both bounds.
 */
public final class RoomTest {
    private static final long MOST_ELEMENTS = 7_300_000;
    private static final long MOST_CENTS = 1_000_000_000_000L;
    private static final int LONG_DATE = Integer.MIN_VALUE;

    private RoomTest() { }

    public static void main(String[] args) {
        ThreadMXBean threads = (ThreadMXBean) ManagementFactory.getThreadMXBean();
        Map<String, ToIntFunction<NumberOffice>> runs = new TreeMap<>(Map.of(
                "a full list", RoomTest::fillOneSeries,
                "three lists", RoomTest::closeAllSeries,
                "letters and their answers", RoomTest::askAndAnswer,
                "breakdowns", RoomTest::breakDown));
        boolean fits = true;
        for (Map.Entry<String, ToIntFunction<NumberOffice>> run : runs.entrySet()) {
            run.getValue().applyAsInt(new NumberOffice(6));
            long before = threads.getCurrentThreadAllocatedBytes();
            int calls = run.getValue().applyAsInt(new NumberOffice(6));
            long bytes = threads.getCurrentThreadAllocatedBytes() - before;
            System.out.println(run.getKey() + ": " + bytes + " bytes in " + calls + " calls");
            fits &= bytes < MOST_ELEMENTS && calls <= Calls.MOST;
        }
        if (!fits) {
            System.out.println("a run has too many calls or makes too much");
            System.exit(1);
        }
    }

    /** The letter and its answer come at once. */
    private static int bring(NumberOffice x) {
        x.deliver(0);
        x.deliver(0);
        return 2;
    }

    private static int give(NumberOffice x, int branch, int s, int n) {
        x.request(branch, s, n);
        return 1 + bring(x);
    }

    private static int tellAll(NumberOffice x, int branch, int s) {
        int calls = 0;
        for (int i = 0; i < 10; i++) {
            x.report(branch, s);
            calls += 1 + bring(x);
        }
        return calls;
    }

    private static int fillOneSeries(NumberOffice x) {
        x.series(0, 9999);
        int calls = 1;
        for (int block = 0; block < 3; block++) {
            calls += give(x, 0, 0, 100);
            for (int i = 0; i < 100; i++) {
                x.invoice(0, 0, MOST_CENTS, LONG_DATE);
                calls++;
            }
        }
        calls += tellAll(x, 0, 0);
        x.close(0);
        calls++;
        return calls + readOn(x, 0, calls);
    }

    private static int closeAllSeries(NumberOffice x) {
        int calls = 0;
        for (int s = 0; s < 3; s++) {
            x.series(s, 9999);
            calls++;
            for (int branch = 0; branch < 3; branch++) {
                calls += give(x, branch, s, 100);
                for (int i = 0; i < 30; i++) {
                    x.invoice(branch, s, MOST_CENTS, LONG_DATE);
                    calls++;
                }
                x.report(branch, s);
                calls += 1 + bring(x);
            }
        }
        for (int branch = 0; branch < 3; branch++) {
            x.strike(branch);
            calls++;
        }
        for (int s = 0; s < 3; s++) {
            x.close(s);
            calls++;
        }
        return calls + readOn(x, 2, calls);
    }

    private static int readOn(NumberOffice x, int s, int calls) {
        int more = 0;
        for (; calls + more < Calls.MOST; more++) {
            x.listByte(s, more);
        }
        return more;
    }

    private static int askAndAnswer(NumberOffice x) {
        int calls = 0;
        for (int i = 0; i < 170; i++) {
            calls += give(x, i % 6, i % 3, 100);
        }
        return calls;
    }

    private static int breakDown(NumberOffice x) {
        x.series(0, 1);
        int calls = 1 + give(x, 0, 0, 100);
        while (calls + 6 <= Calls.MOST) {
            x.voidNext(0, 0, 1);
            x.flush(6);
            for (int side = 0; side <= 6; side += 6) {
                x.crash(side);
                x.mount(side);
            }
            calls += 6;
        }
        return calls;
    }
}
