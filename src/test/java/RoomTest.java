import java.lang.management.ManagementFactory;

/**
 * All calls of a run live in one room of some 600,000 objects and arrays and 7.3 million fields and elements. A field
 * or element takes a byte at least and an object sixteen, so what takes fewer than 7.3 million bytes has room.
 */
public final class RoomTest extends Checks {
    private static final long ROOM = 7_300_000L;
    /** Half of what an object is used for at most, as some of them take a feed() and more. */
    private static final int CALLS = 256;

    private interface Run {
        int of(GoingOver x, int k);
    }

    private static String dear() {
        StringBuilder s = new StringBuilder("falls 9 60;rain 3 9;");
        for (char c = 'a'; c < 'f'; c++) s.append("person p").append(c).append(" 1;");
        for (char c = 'a'; c < 'k'; c++) s.append("item ").append(c).append(" pa 7;");
        for (char c = 'b'; c < 'k'; c++) s.append("join a ").append(c).append(" 9;");
        for (char c = 'c'; c < 'j'; c++) s.append("join ").append(c).append(" b 8;");
        return s.toString();
    }

    private static int someOf(GoingOver x, int k) {
        int p = k % 5;
        switch (k / 5 % 22) {
            case 0: return x.go(p);
            case 1: return x.free(p);
            case 2: return x.unload(p);
            case 3: return x.load(p);
            case 4: return x.bind(p);
            case 5: return x.days(p);
            case 6: return x.undo();
            case 7: return x.fate(p);
            case 8: return x.straw(p);
            case 9: return x.lighten(p);
            case 10: return x.keep(p);
            case 11: return x.apart(p, p + 1);
            case 12: return x.crack(p) + x.drops(p);
            case 13: return x.heaviest();
            case 14: return x.tag(p);
            case 15: return x.drawn(60, k);
            case 16: return x.said(p);
            case 17: return x.image(p % 2) ? 1 : 0;
            case 18: return x.restore(p % 2) ? 1 : 0;
            case 19: return x.person(p, p);
            case 20: return x.item(p, 4);
            default: return x.now(p);
        }
    }

    private static final String[] NAMES = {"odds", "drawn", "keep", "lighten", "falls", "book", "sentence", "heights",
        "who", "some of each"};
    private static final Run[] RUNS = {
        (x, k) -> x.odds(0, 30, k),
        (x, k) -> x.drawn(60, k) > 0 ? 0 : x.undo(),
        (x, k) -> x.keep(0),
        (x, k) -> x.lighten(0),
        (x, k) -> k % 40 == 0 ? falls(x, dear()) : 0,
        (x, k) -> k % 20 == 0 ? book(x, 1, "load a;".repeat(2) + "day 1;".repeat(38)) + x.undo() : 0,
        (x, k) -> k % 14 == 0 ? sentence(x, "ready" + " or ready".repeat(19)) : x.said(k % 5),
        (x, k) -> k % 4 == 0 ? heights(x, 0, 1) : 0,
        (x, k) -> k % 4 == 0 ? who(x, 70) : 0,
        RoomTest::someOf,
    };

    private static void runOf(int r) {
        GoingOver x = new GoingOver();
        int sum = falls(x, dear());
        for (int k = 0; k < CALLS; k++) sum += RUNS[r].of(x, k);
        due("the sum of " + NAMES[r], sum == Integer.MIN_VALUE, false);
    }

    public static void main(String[] args) {
        at = "room";
        com.sun.management.ThreadMXBean bean = (com.sun.management.ThreadMXBean) ManagementFactory.getThreadMXBean();
        long self = Thread.currentThread().getId();
        for (int r = 0; r < RUNS.length; r++) {
            long before = bean.getThreadAllocatedBytes(self);
            runOf(r);
            long made = bean.getThreadAllocatedBytes(self) - before;
            if (2 * made >= ROOM) due("the bytes that a run of " + NAMES[r] + " makes", 2 * made, ROOM - 1);
        }
        ends("the calls of a run have room");
    }
}
