import java.lang.management.ManagementFactory;

/** All calls of a run live in one room: a new object is small, and the dearest calls make next to nothing. */
public final class RoomTest {
    private static final Checks CHECKS = new Checks();
    private static final long BYTES_OF_AN_OBJECT = 80000;
    private static final long BYTES_OF_ITS_CALLS = 20000;

    public static void main(String[] args) {
        com.sun.management.ThreadMXBean meter =
            (com.sun.management.ThreadMXBean) ManagementFactory.getThreadMXBean();
        long id = Thread.currentThread().getId();
        use(Checks.works(wide()), 2);
        long before = meter.getThreadAllocatedBytes(id);
        CardLoops x = new CardLoops();
        long made = meter.getThreadAllocatedBytes(id);
        CHECKS.due("bytes of an object " + (made - before), made - before < BYTES_OF_AN_OBJECT, true);
        Checks.tell(x, wide());
        long told = meter.getThreadAllocatedBytes(id);
        use(x, 30);
        long used = meter.getThreadAllocatedBytes(id);
        CHECKS.due("bytes of its calls " + (used - told), used - told < BYTES_OF_ITS_CALLS, true);
        CHECKS.close();
    }

    private static String wide() {
        return "works 12;station 58 55;station 19 17;station 58 57;station 22 1;loop 1 2 9;run 2 19;run 0 7;run 1 14;";
    }

    private static void use(CardLoops x, int turns) {
        for (int i = 0; i < turns; i++) {
            x.pass(999);
            x.step();
            x.cards(1, 8 + i % 2);
            x.pace(0);
            x.longest();
            x.least(0, 1, 59);
            x.when(200, 0);
            x.next(999);
            x.station(0, 6);
            x.feed(1, 2, 3, 4, 5);
            x.text();
            x.anew();
            x.undo();
        }
    }
}
