import java.lang.management.ManagementFactory;

/** All calls of one run share one room: what an object and its dearest calls make is measured. */
public final class RoomTest {
    private static final Check CHECK = new Check();
    private static final int CALLS = 512;
    private static final long KILO = 1024;
    private static final String WIDE = "0:9;1:9;2:9;3:9;4:9;5:9;0:9;1:9;2:9;3:9;4:9;5:9;0:9;1:9;2:9";
    private static int answers;

    public static void main(String[] args) {
        made();
        for (int kind = 0; kind < 8; kind++) {
            long before = bytes();
            CoinErrands x = crowded();
            for (int call = 0; call < CALLS; call++) {
                call(x, kind);
            }
            long kilos = (bytes() - before) / KILO;
            CHECK.due("room of calls of kind " + kind + " (" + kilos + " KiB)", 1, kilos < 1000 ? 1 : 0);
        }
        CHECK.due("there were answers", 1, answers != 0 ? 1 : 0);
        CHECK.end();
    }

    private static long bytes() {
        if (ManagementFactory.getThreadMXBean() instanceof com.sun.management.ThreadMXBean bean) {
            return bean.getThreadAllocatedBytes(Thread.currentThread().getId());
        }
        return 0;
    }

    private static void made() {
        long before = bytes();
        answers += new CoinErrands().total(13);
        long kilos = (bytes() - before) / KILO;
        CHECK.due("room of a new object (" + kilos + " KiB)", 1, kilos < 200 ? 1 : 0);
    }

    private static CoinErrands crowded() {
        CoinErrands x = new CoinErrands();
        x.set(0, 2);
        x.set(1, 99);
        Check.type(x, "0:9(1:0(2:0));1:9(1:0(2:0));2:9(1:0(2:0));3:9(1:0(2:0))");
        for (int i = 0; i < 4; i++) {
            x.launch();
        }
        Check.retype(x, WIDE);
        return x;
    }

    private static void call(CoinErrands x, int kind) {
        switch (kind) {
            case 0 -> answers += x.leastCoin();
            case 1 -> answers += x.quietIn();
            case 2 -> answers += x.idleIn();
            case 3 -> answers += x.planned(0);
            case 4 -> answers += x.launch();
            case 5 -> answers += x.pass(100);
            case 6 -> answers += x.keep() + x.restore() + x.undo();
            default -> answers += x.launch() + x.undo();
        }
    }
}
