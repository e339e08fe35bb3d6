import java.lang.management.ManagementFactory;

/** What a run of the dearest calls makes: it must stay far below the one room in which all calls live. */
public final class RoomTest {
    private static final long MOST_BYTES = 400_000;

    public static void main(String[] args) {
        com.sun.management.ThreadMXBean threads = (com.sun.management.ThreadMXBean) ManagementFactory.getThreadMXBean();
        dearRun();
        long before = threads.getCurrentThreadAllocatedBytes();
        int calls = dearRun();
        long made = threads.getCurrentThreadAllocatedBytes() - before;
        Due.holds("a run has its 512 calls", calls <= 512 && calls > 500);
        Due.holds("a run of " + calls + " calls made " + made + " bytes", made < MOST_BYTES);
        ends();
        Due.finish("RoomTest");
    }

    /** All pieces, bodies, rules, seams and editions there can be, then drawing and laying over and over. */
    private static int dearRun() {
        PatternHouse x = new PatternHouse();
        int calls = 0;
        for (int k = 0; k < 16; k++, calls++) x.piece(k == 0 ? 0 : 3, 10, k == 0 ? -1 : k - 1);
        for (int k = 0; k < 12; k++, calls++) x.body(k % 11);
        for (int k = 0; k < 120; k++, calls += 2) {
            x.feed(8, Due.packed("(4+5),54"));
            x.rule(k % 12, k % 10, 0);
        }
        for (int k = 0; k < 20; k++, calls++) x.seam(15, 0, 0, 14, 0, 0, -999, 999);
        for (int k = 0; k < 12; k++, calls++) x.edition();
        for (int k = 0; k < 4; k++, calls++) x.lays(k, 5);
        for (int k = 0; k < 6; k++, calls++) x.marker(11111 + k, 99 - k);
        for (int k = 0; k < 5; k++, calls++) x.order(k, 45);
        for (int k = 0; k < 39; k++, calls += 5) {
            x.table(k % 8, k % 11, k);
            x.days(1);
            x.wrong(0);
            x.shortest(0);
            x.season();
        }
        return calls;
    }

    /** Calls behind the 512th answer what they like, but they end and do not throw. */
    private static void ends() {
        PatternHouse x = new PatternHouse();
        for (int k = 0; k < 3000; k++) {
            x.table(k % 8, k % 11, k);
            x.feed(8, k);
            x.rule(0, 0, 0);
            x.piece(0, 3, -1);
            x.body(1);
            x.alter(k % 16, 0, k % 12, 1, 1);
            x.trial(0, 0, 0, 1, 1, 1);
            x.seam(0, 0, 1, 0, 0, 1, 0, 0);
            x.notch(0, 1, 1);
            x.condition(1, 1, 1, 1, 1, 1, 1);
            x.lays(0, 5);
            x.put(1);
            x.edition();
            x.holds(0, 5);
            x.marker(1, 1);
        }
        Due.due("all of them came to an end", x.count(2), 16);
    }
}
