import java.lang.management.ManagementFactory;

/** What 512 of the dearest calls make: all calls of one run live in one room. */
public final class RoomTests {
    private static final int CALLS = 512;
    private static final long OBJECT_BYTES = 500_000;

    public static void main(String[] args) {
        int wrong = 0;
        for (int kind = 0; kind < 6; kind++) {
            calls(kind);
            long made = calls(kind);
            if (made > OBJECT_BYTES) {
                wrong++;
                System.out.println("run " + kind + " made " + made + " bytes, no more than " + OBJECT_BYTES + " are due");
            }
        }
        System.out.println("6 runs of " + CALLS + " calls, " + wrong + " made too much");
        if (wrong != 0) {
            System.exit(1);
        }
    }

    private static long calls(int kind) {
        com.sun.management.ThreadMXBean threads =
            (com.sun.management.ThreadMXBean) ManagementFactory.getThreadMXBean();
        long before = threads.getCurrentThreadAllocatedBytes();
        FourAskOne x = new FourAskOne();
        x.come(8);
        for (int asker = 0; asker < 4; asker++) {
            x.asker(asker, 9, 5);
        }
        Checks.letters(x, 0, "way 0 5;way 1 5;way 2 5;way 3 5;way 4 5;way 5 5;way 6 5;way 6 6");
        x.image();
        for (int call = 0; call < CALLS; call++) {
            dear(x, kind, call);
        }
        return threads.getCurrentThreadAllocatedBytes() - before;
    }

    private static void dear(FourAskOne x, int kind, int call) {
        switch (kind) {
            case 0:
                // a text that is read eight WAYS long each time
                if (call % 2 == 0) {
                    x.house(0);
                } else {
                    x.restore();
                }
                break;
            case 1:
                x.row(call % 8, 3, 160);
                break;
            case 2:
                x.image();
                x.restore();
                break;
            case 3:
                x.weights(call % 8, 3);
                break;
            case 4:
                x.act(6, 2, call);
                break;
            default:
                x.turned(call % 8);
                x.lets(8);
                break;
        }
    }
}
