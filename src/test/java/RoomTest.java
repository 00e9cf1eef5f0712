import java.lang.management.ManagementFactory;

/** What an object and its calls take of the room that all calls of a run have. */
public final class RoomTest {
    /** 7.3 million fields and elements, of which the least take a byte; a run has twice as many calls as this one. */
    private static final long ROOM_BYTES = 7_300_000 / 2;
    /** With blanks enough that whole twenties hold all of it. */
    private static final String TEXT = "pattern a(p, q) for i = p to 9 drop i * 9, q * 9, 9, 1; end end "
            + "pattern b do a(1, 2); do a(3, 4); end pattern c wave x 90, 9; if 1 < 2 do b; end end                    ";
    private static final int[] WORDS = new int[5];

    public static void main(String[] args) {
        com.sun.management.ThreadMXBean threads =
                (com.sun.management.ThreadMXBean) ManagementFactory.getThreadMXBean();
        long id = Thread.currentThread().getId();
        use(new MarbleBath());
        long before = threads.getThreadAllocatedBytes(id);
        MarbleBath bath = new MarbleBath();
        long made = threads.getThreadAllocatedBytes(id);
        int used = use(bath);
        long after = threads.getThreadAllocatedBytes(id);
        System.out.println("RoomTest: an object takes " + (made - before) + " bytes, " + used + " calls take "
                + (after - made));
        if (after - before > ROOM_BYTES) {
            System.exit(1);
        }
    }

    private static int use(MarbleBath bath) {
        int calls = 0;
        for (int i = 0; i < 40; i++) {
            bath.drop(i * 25, i * 20, 50, i % 8);
            bath.comb(i % 2, i, 50, 20, 9, 40);
            calls += 2;
        }
        calls += feed(bath);
        bath.read();
        bath.lay(7);
        bath.lay(9);
        bath.strike(3);
        calls += 4;
        for (int i = 0; i < 20; i++) {
            int n = bath.count(1);
            bath.run(i % 3, 1, 1);
            bath.made(0, n);
            bath.off(1, n);
            bath.row(0, 3, n);
            bath.match(0, 1, n);
            bath.pieces(0, n);
            bath.home(i * 9, i * 7, n);
            bath.from(i * 9, i * 7, n, 1);
            calls += 9;
        }
        return calls;
    }

    private static int feed(MarbleBath bath) {
        int calls = 0;
        for (int i = 0; i + 20 <= TEXT.length(); i += 20) {
            for (int k = 0; k < 20; k++) {
                WORDS[k / 4] = WORDS[k / 4] << 8 | TEXT.charAt(i + k);
            }
            bath.feed(WORDS[0], WORDS[1], WORDS[2], WORDS[3], WORDS[4]);
            calls++;
        }
        return calls;
    }
}
