import java.lang.management.ManagementFactory;

/** What 512 of the dearest calls make: all calls of one run live in one room. */
public final class RoomTests {
    private static final int CALLS = 512;
    private static final int KINDS = 7;
    private static final long MOST_BYTES = 500_000;
    private static final String EIGHT_WAYS = "way 0 5;way 1 5;way 2 5;way 3 5;way 4 5;way 5 5;way 6 5;way 6 6";

    public static void main(String[] args) {
        int wrong = 0;
        for (int kind = 0; kind < KINDS; kind++) {
            calls(kind);
            long made = calls(kind);
            if (made > MOST_BYTES) {
                wrong++;
                System.out.println("run " + kind + " made " + made + " bytes, no more than " + MOST_BYTES + " are due");
            }
        }
        System.out.println(KINDS + " runs of " + CALLS + " calls, " + wrong + " made too much");
        if (wrong != 0) {
            System.exit(1);
        }
    }

    private static long calls(int kind) {
        com.sun.management.ThreadMXBean threads =
            (com.sun.management.ThreadMXBean) ManagementFactory.getThreadMXBean();
        long before = threads.getCurrentThreadAllocatedBytes();
        FourAskOne x = new FourAskOne();
        int call = ready(x);
        while (call < CALLS) {
            dear(x, kind, call);
            call++;
        }
        return threads.getCurrentThreadAllocatedBytes() - before;
    }

    /** A full house and an IMAGE of it without WAYS: how many calls that took. */
    private static int ready(FourAskOne x) {
        x.come(8);
        for (int asker = 0; asker < 4; asker++) {
            x.asker(asker, 9, 5);
        }
        Checks.letters(x, 0, EIGHT_WAYS);
        x.image();
        x.house(0);
        return 8 + EIGHT_WAYS.length();
    }

    private static void dear(FourAskOne x, int kind, int call) {
        switch (kind) {
            case 0:
                // eight WAYS are read each second time
                if (call % 2 == 0) {
                    x.restore();
                } else {
                    x.house(0);
                }
                break;
            case 1:
                x.row(1 + call % 7, 3, 160);
                break;
            case 2:
                x.image();
                break;
            case 3:
                x.weights(call % 8, 3);
                break;
            case 4:
                x.act(6, 2, call);
                break;
            case 5:
                x.turned(call % 8);
                break;
            default:
                x.lets(8);
                break;
        }
    }
}
