import java.lang.management.ManagementFactory;

/** How much room calls take: rows are made once and used again, so that 512 calls of any kind need hardly any. */
public final class RoomTest {
    private static final Check CHECK = new Check("RoomTest");
    private static final int CALLS = 150;
    // in bytes; far below 7.3 million elements
    private static final long MOST_OF_A_RUN = 30_000;

    private static final com.sun.management.ThreadMXBean BEAN =
        (com.sun.management.ThreadMXBean) ManagementFactory.getThreadMXBean();

    interface Deed {
        void on(MapPieces x);
    }

    private static final String RULES = "rule 7 from 5 5 to 5 9;".repeat(6);
    private static final String PIECES = "piece 7 5 5 5 5 5 5 5;piece 6 5 5 5;piece 5 5 5 5;piece 5 5 5 5 5 5;";

    private static void room(String what, Deed deed) {
        MapPieces warm = Check.of(PIECES + RULES + Texts.ICOSAHEDRON);
        deed.on(warm);
        MapPieces x = Check.of(PIECES + RULES + Texts.ICOSAHEDRON);
        long before = BEAN.getThreadAllocatedBytes(Thread.currentThread().getId());
        for (int i = 0; i < CALLS; i++) {
            deed.on(x);
        }
        long taken = BEAN.getThreadAllocatedBytes(Thread.currentThread().getId()) - before;
        CHECK.due("room of " + what + " (" + taken + " bytes)", taken <= MOST_OF_A_RUN ? 1 : 0, 1);
    }

    public static void main(String[] args) {
        room("piece", x -> x.piece(0, 8));
        room("level", x -> x.level(1, 90));
        room("extend", x -> x.extend(0, 90, 7));
        room("switched", x -> x.switched(0, 90, 1, 3));
        room("cases", x -> x.cases(7, 4));
        room("open", x -> x.count(7));
        room("ways", x -> x.ways());
        room("solve", x -> x.solve(11));
        room("free", x -> x.free(0, 0));
        room("play", x -> x.play(0));
        room("meant", x -> x.meant(0));
        room("years", x -> x.years(5, 100, 0));
        room("image", x -> x.image());
        room("tune", x -> x.tune(0, x.rule(0, 0) == 7 ? 8 : 7));
        room("atlas", x -> {
            x.feed(0x70696563, 0x65203520, 0x35203520, 0x353b2020, 0x20202020);
            x.atlas(20);
            x.piece(0, 9);
        });
        room("plan", x -> {
            x.feed(0x73686565, 0x743b7368, 0x6565743b, 0x6f66663b, 0x20202020);
            x.plan(20);
        });
        long before = BEAN.getThreadAllocatedBytes(Thread.currentThread().getId());
        MapPieces x = new MapPieces();
        long taken = BEAN.getThreadAllocatedBytes(Thread.currentThread().getId()) - before;
        CHECK.due("room of " + x.count(0) + " new object (" + taken + " bytes)", taken <= 30_000 ? 1 : 0, 1);
        System.out.println("a new object takes " + taken + " bytes");
        CHECK.end();
    }
}
