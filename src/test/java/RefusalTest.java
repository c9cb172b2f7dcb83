import java.util.Random;
import java.util.function.Supplier;

/**
 * Each call with each edge of each number: BAD for the first number beyond, no BAD for the last one that is told;
 * nothing has changed behind a refused call, or behind one that only asks; and no call throws.
 */
public final class RefusalTest {
    private static final int BAD = Checks.BAD, LEAST = Checks.LEAST, MOST = Checks.MOST;
    private static final int BOAT = -100, MEETING = -101;

    private interface Asks {
        int of(UnderTheRope x, int[] n);
    }

    /** A call's promise, its name, the lowest and the highest number of each argument; what it may do. */
    private record Call(int promise, String name, int[][] told, boolean two, boolean changes, Asks asks) {
    }

    private static final int[] RULE = {0, 3}, ANY_BOAT = {0, BOAT}, EITHER = {0, 1};
    private static final Call[] CALLS = {
        new Call(2, "write", new int[][] {{32, 126}}, false, true, (x, n) -> x.write(n[0])),
        new Call(3, "wipe", new int[][] {}, false, true, (x, n) -> x.wipe()),
        new Call(4, "fault", new int[][] {}, false, false, (x, n) -> x.fault()),
        new Call(5, "lay", new int[][] {}, false, true, (x, n) -> x.lay()),
        new Call(6, "boat", new int[][] {ANY_BOAT, {0, 5}}, false, false, (x, n) -> x.boat(n[0], n[1])),
        new Call(7, "where", new int[][] {RULE, ANY_BOAT, {0, 120}}, false, false, (x, n) -> x.where(n[0], n[1], n[2])),
        new Call(8, "there", new int[][] {RULE, ANY_BOAT}, false, false, (x, n) -> x.there(n[0], n[1])),
        new Call(9, "stands", new int[][] {RULE, {-1, BOAT}}, false, false, (x, n) -> x.stands(n[0], n[1])),
        new Call(10, "yields", new int[][] {RULE, ANY_BOAT}, false, false, (x, n) -> x.yields(n[0], n[1])),
        new Call(11, "meetings", new int[][] {RULE}, false, false, (x, n) -> x.meetings(n[0])),
        new Call(12, "meeting", new int[][] {RULE, {0, MEETING}, {0, 3}}, false, false, (x, n) -> x.meeting(n[0], n[1], n[2])),
        new Call(13, "load", new int[][] {ANY_BOAT, {0, 9}}, false, true, (x, n) -> x.load(n[0], n[1])),
        new Call(14, "later", new int[][] {ANY_BOAT, {0, 30}}, false, true, (x, n) -> x.later(n[0], n[1])),
        new Call(15, "undo", new int[][] {}, false, true, (x, n) -> x.undo()),
        new Call(16, "who", new int[][] {RULE, ANY_BOAT, ANY_BOAT}, true, false, (x, n) -> x.who(n[0], n[1], n[2])),
        new Call(17, "best", new int[][] {EITHER}, false, false, (x, n) -> x.best(n[0])),
        new Call(18, "custom", new int[][] {}, false, false, (x, n) -> x.custom()),
        new Call(19, "send", new int[][] {RULE, ANY_BOAT, EITHER}, false, false, (x, n) -> x.send(n[0], n[1], n[2])),
        new Call(20, "swap", new int[][] {RULE, EITHER}, false, false, (x, n) -> x.swap(n[0], n[1])),
        new Call(21, "fall", new int[][] {ANY_BOAT, ANY_BOAT, EITHER}, true, false, (x, n) -> x.fall(n[0], n[1], n[2])),
        new Call(22, "caught", new int[][] {ANY_BOAT, {0, 6}, {0, 10}, EITHER}, false, false,
            (x, n) -> x.caught(n[0], n[1], n[2], n[3])),
        new Call(23, "rests", new int[][] {ANY_BOAT, ANY_BOAT, EITHER}, true, false, (x, n) -> x.rests(n[0], n[1], n[2])),
        new Call(24, "seen", new int[][] {ANY_BOAT, ANY_BOAT}, true, true, (x, n) -> x.seen(n[0], n[1])),
        new Call(25, "forget", new int[][] {}, false, true, (x, n) -> x.forget()),
        new Call(26, "fits", new int[][] {}, false, false, (x, n) -> x.fits()),
        new Call(27, "starts", new int[][] {RULE, ANY_BOAT}, false, false, (x, n) -> x.starts(n[0], n[1])),
        new Call(28, "bears", new int[][] {RULE, {0, 9}}, false, false, (x, n) -> x.bears(n[0], n[1])),
        new Call(29, "day", new int[][] {RULE, {0, 9999}, EITHER}, false, false, (x, n) -> x.day(n[0], n[1], n[2])),
        new Call(30, "keep", new int[][] {}, false, true, (x, n) -> x.keep()),
        new Call(31, "back", new int[][] {}, false, true, (x, n) -> x.back()),
        new Call(32, "count", new int[][] {{0, 5}}, false, false, (x, n) -> x.count(n[0])),
    };

    public static void main(String[] args) {
        inState("a new object", UnderTheRope::new);
        inState("one boat", () -> Checks.laid("b0,0,1,0,0;"));
        inState("two that never meet", () -> Checks.laid("b40,0,1,3,2;b10,1,2,0,2;l1,1;"));
        inState("all in use", RefusalTest::inUse);
        inState("all full", RefusalTest::allFull);
        inState("a text with a fault", () -> Checks.written("b0,0,1,0,0;n5,4;"));
        neverThrows();
        Checks.end("RefusalTest");
    }

    private static UnderTheRope inUse() {
        UnderTheRope x = Checks.laid(Checks.SIX);
        x.load(0, 5);
        x.keep();
        x.later(4, 9);
        x.seen(0, 1);
        x.seen(4, 3);
        x.write('b');
        return x;
    }

    private static UnderTheRope allFull() {
        UnderTheRope x = Checks.laid("b0,0,1,9,0;b60,1,1,8,0;".repeat(3) + "n1,2;n20,40;n50,60;" + "h20;".repeat(28));
        if (x.count(5) != 200) {
            Checks.fail("the text has " + x.count(5) + " letters");
        }
        for (int k = 0; k < 8; k++) {
            x.seen(k % 3 * 2, 1 + k % 2 * 2);
        }
        x.load(0, 1);
        x.keep();
        x.later(5, 30);
        x.keep();
        for (int k = 0; k < 8; k++) {
            x.load(k % 6, k);
        }
        return x;
    }

    private static void inState(String name, Supplier<UnderTheRope> make) {
        UnderTheRope x = make.get();
        int boats = x.count(0);
        int met = x.meetings(0);
        String untouched = look(make.get(), boats);
        for (Call call : CALLS) {
            Checks.says(call.promise, call.name + " in the state '" + name + "'");
            int[][] edges = new int[call.told.length][];
            for (int k = 0; k < edges.length; k++) {
                int high = call.told[k][1] == BOAT ? boats - 1 : call.told[k][1] == MEETING ? met - 1 : call.told[k][1];
                edges[k] = new int[] {call.told[k][0], high};
            }
            eachEdge(call, edges, new int[edges.length], 0, make, untouched);
        }
    }

    /** Tries the least int, one too small, the lowest, the highest, one too large, the largest int of each argument. */
    private static void eachEdge(Call call, int[][] edges, int[] numbers, int k, Supplier<UnderTheRope> make, String untouched) {
        if (k == edges.length) {
            tryOne(call, edges, numbers, make, untouched);
            return;
        }
        int low = edges[k][0];
        int high = edges[k][1];
        for (int number : new int[] {LEAST, low - 1, low, high, high + 1, MOST}) {
            numbers[k] = number;
            eachEdge(call, edges, numbers, k + 1, make, untouched);
        }
    }

    private static void tryOne(Call call, int[][] edges, int[] numbers, Supplier<UnderTheRope> make, String untouched) {
        boolean bad = false;
        for (int k = 0; k < edges.length; k++) {
            bad |= !Checks.isWithin(numbers[k], edges[k][0], edges[k][1]);
        }
        // The two boats of a call are the first two numbers, or those behind the rule.
        int first = call.told.length > 0 && call.told[0] == RULE ? 1 : 0;
        bad |= call.two && numbers[first] == numbers[first + 1];
        UnderTheRope x = make.get();
        int boats = x.count(0);
        int got = call.asks.of(x, numbers);
        String told = call.name + java.util.Arrays.toString(numbers);
        Checks.due(told + " is BAD (1) or not (0): " + got, got == BAD ? 1 : 0, bad ? 1 : 0);
        if (got < 0 || !call.changes) {
            Checks.due("what is seen behind " + told + " -> " + got, look(x, boats), untouched);
        }
    }

    /** All that calls tell of an object, and what comes out when all is undone, taken back, forgotten, laid, wiped. */
    private static String look(UnderTheRope x, int boats) {
        StringBuilder seen = new StringBuilder();
        counts(x, seen);
        for (int i = 0; i < boats; i++) {
            for (int what = 0; what < 6; what++) {
                seen.append(x.boat(i, what)).append(' ');
            }
        }
        seen.append("fault ").append(x.fault()).append(" fits ").append(x.fits()).append(" stands ");
        for (int rule = 0; rule < 4; rule++) {
            seen.append(x.stands(rule, -1)).append(' ').append(x.meetings(rule)).append(' ');
        }
        seen.append(x.rests(0, 1, 0)).append(' ').append(x.fall(0, 1, 0)).append(' ').append(x.fall(0, 1, 1));
        for (int k = 0; k < 9; k++) {
            seen.append(" undo ").append(x.undo()).append(' ').append(x.boat(0, 3)).append(' ').append(x.boat(k % boats, 3));
            seen.append(' ').append(x.boat(boats - 1, 5)).append(' ').append(x.boat(4, 5));
        }
        for (int k = 0; k < 3; k++) {
            seen.append(" back ").append(x.back()).append(' ');
            for (int i = 0; i < boats; i++) {
                seen.append(x.boat(i, 3)).append(' ').append(x.boat(i, 5)).append(' ');
            }
        }
        seen.append(" forget ").append(x.forget()).append(" lay ").append(x.lay()).append(' ');
        counts(x, seen);
        seen.append(x.stands(0, -1)).append(' ').append(x.boat(0, 3)).append(" wipe ").append(x.wipe());
        return seen.toString();
    }

    private static void counts(UnderTheRope x, StringBuilder seen) {
        for (int what = 0; what < 6; what++) {
            seen.append(x.count(what)).append(' ');
        }
    }

    private static void neverThrows() {
        Checks.says(1, "no call throws, for any arguments in any state, beyond 512 calls, too");
        int[] odd = {LEAST, LEAST + 1, -65536, -256, -128, -9, -4, -3, -2, -1, 0, 1, 2, 3, 4, 5, 6, 7, 8, 9, 10, 11, 30, 31, 60, 61, 119,
            120, 121, 126, 127, 200, 255, 256, 9999, 10000, 65535, 65536, MOST - 1, MOST};
        Random random = new Random(5);
        UnderTheRope x = new UnderTheRope();
        String letters = "bnyhl0123456789,;";
        for (int k = 0; k < 200000; k++) {
            if (k % 5000 == 0) {
                x = k % 10000 == 0 ? new UnderTheRope() : allFull();
            }
            int[] numbers = new int[4];
            for (int n = 0; n < 4; n++) {
                numbers[n] = random.nextInt(3) == 0 ? odd[random.nextInt(odd.length)] : random.nextInt(7);
            }
            Call call = CALLS[random.nextInt(CALLS.length)];
            if (call.name.equals("write") && random.nextBoolean()) {
                numbers[0] = letters.charAt(random.nextInt(letters.length()));
            }
            try {
                call.asks.of(x, numbers);
            } catch (RuntimeException thrown) {
                Checks.fail(call.name + java.util.Arrays.toString(numbers) + " threw " + thrown);
            }
        }
    }
}
