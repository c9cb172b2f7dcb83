import java.math.BigInteger;

/** The edges of promises 27 to 29: how often a horse starts, which horses bear it, days by draws. */
public final class HorseEdgeTest {
    private static final int BAD = Checks.BAD, LEAST = Checks.LEAST, MOST = Checks.MOST;

    public static void main(String[] args) {
        startsOnce();
        beginsThere();
        noMinutesLeft();
        noMinutesLeftOfBeingLate();
        atItsEnd();
        madeToStand();
        mostStarts();
        startsRefused();
        bears();
        bearsByRule();
        drawsByHand();
        daysAsDrawn();
        dayOfAnyLoads();
        dayRefused();
        Checks.end("HorseEdgeTest");
    }

    private static void says(int promise, String words) {
        Checks.says(promise, words);
    }

    private static void due(String call, int got, int want) {
        Checks.due(call, got, want);
    }

    private static UnderTheRope laid(String text) {
        return Checks.laid(text);
    }

    private static void startsOnce() {
        says(27, "STARTS of a horse: 1");
        due("alone", laid("b0,0,1,0,0;").starts(0, 0), 1);
        UnderTheRope late = laid("b0,0,1,0,0;");
        late.later(0, 30);
        due("sent later", late.starts(0, 0), 1);
        due("who does not yield", laid("b0,0,1,0,0;b10,1,1,0,3;").starts(0, 0), 1);
        due("a cell from its end", laid("b59,0,1,0,0;").starts(0, 0), 1);
        due("a cell from its end, down", laid("b1,1,1,0,0;").starts(0, 0), 1);
    }

    private static void beginsThere() {
        says(27, "none, if it begins THERE");
        UnderTheRope x = laid("b60,0,1,0,0;b0,1,1,0,0;b0,0,1,0,0;b60,1,1,0,0;");
        due("up at 60", x.starts(0, 0), 0);
        due("down at 0", x.starts(0, 1), 0);
        due("up at 0", x.starts(0, 2), 1);
        due("down at 60 yields", x.starts(0, 3), 2);
        x.later(0, 30);
        due("sent later, too", x.starts(0, 0), 0);
    }

    private static void noMinutesLeft() {
        says(27, "while it has no minutes left to stand");
        // Boat 0 meets boat 1 in minute 5 and stands for minutes 6 to 9, at 5.
        int[] cells = {10, 11, 13, 14, 15};
        int[] minutes = {5, 6, 8, 9, 10};
        int[] starts = {2, 2, 2, 3, 3};
        for (int k = 0; k < cells.length; k++) {
            UnderTheRope x = laid("b0,0,1,0,3;b10,1,1,5,0;b" + cells[k] + ",1,1,5,0;");
            due("minute of the second meeting", x.meeting(0, 1, 0), minutes[k]);
            due("starts, the second one from " + cells[k], x.starts(0, 0), starts[k]);
            due("stands twice all the same", x.stands(0, 0), 8);
        }
    }

    private static void noMinutesLeftOfBeingLate() {
        says(27, "while it has no minutes left to stand, sent later");
        // Sent 29 minutes later it has one left in minute 28 and none left in minute 29.
        int[] starts = {1, 2};
        for (int k = 0; k < 2; k++) {
            UnderTheRope x = laid("b0,0,1,0,3;b" + (28 + k) + ",1,1,5,0;");
            x.later(0, 29);
            due("minute", x.meeting(0, 0, 0), 28 + k);
            due("starts", x.starts(0, 0), starts[k]);
        }
    }

    private static void atItsEnd() {
        says(27, "and is not at its end");
        UnderTheRope up = laid("b59,0,1,0,3;b60,1,1,5,0;n60,60;");
        due("who yields at its end", up.stands(0, 0), 7);
        due("who yields at its end starts once", up.starts(0, 0), 1);
        due("the other one starts again", up.starts(0, 1), 2);
        UnderTheRope down = laid("b1,1,1,0,3;b0,0,1,5,0;n0,0;");
        due("down at its end", down.starts(0, 0), 1);
        due("the other one starts again", down.starts(0, 1), 2);
        UnderTheRope held = laid("b59,0,1,0,2;b60,1,1,5,2;");
        due("held at its end", held.starts(0, 0), 1);
        due("held, not at its end", held.starts(0, 1), 2);
        due("a cell from its end", laid("b58,0,1,0,3;b60,1,1,5,0;").starts(0, 0), 2);
        due("a cell from its end, down", laid("b2,1,1,0,3;b0,0,1,5,0;").starts(0, 0), 2);
    }

    private static void madeToStand() {
        says(27, "1 for each time that a MEETING makes it stand");
        UnderTheRope wide = laid("b0,0,1,0,3;b10,1,1,5,0;");
        due("who yields", wide.starts(0, 0), 2);
        due("the other one does not stand", wide.starts(0, 1), 1);
        UnderTheRope narrow = laid("b0,0,1,0,3;b10,1,1,5,0;n5,5;");
        due("who yields in a narrow place, once", narrow.starts(0, 0), 2);
        due("the other one stands 3", narrow.starts(0, 1), 2);
        UnderTheRope held = laid("b0,0,1,0,2;b10,1,1,5,2;n5,5;");
        due("held", held.starts(0, 0), 2);
        due("held, the other one", held.starts(0, 1), 2);
        // Two in one minute: at the second one it has minutes left already.
        due("two in one minute", laid("b0,0,1,0,3;b10,1,1,5,0;b10,1,1,5,0;").starts(0, 0), 2);
    }

    private static String five() {
        return "b0,0,1,0,3;b10,1,1,0,0;b20,1,1,0,0;b30,1,1,0,0;b40,1,1,0,0;b50,1,1,0,0;y1;";
    }

    private static void mostStarts() {
        says(27, "the most there can be: 1 and 5 others");
        UnderTheRope x = laid(five());
        due("starts(0, 0)", x.starts(0, 0), 6);
        for (int i = 1; i < 6; i++) {
            due("starts(0, " + i + ")", x.starts(0, i), 1);
        }
    }

    private static void startsRefused() {
        says(27, "BAD");
        UnderTheRope x = laid(five());
        for (int i : new int[] {-1, 6, LEAST, MOST}) {
            due("starts(0, " + i + ")", x.starts(0, i), BAD);
        }
        for (int rule : new int[] {-1, 4, LEAST, MOST}) {
            due("starts(" + rule + ", 0)", x.starts(rule, 0), BAD);
        }
        due("of four: starts(0, 4)", new UnderTheRope().starts(0, 4), BAD);
    }

    private static void bears() {
        says(28, "BOATS (bits) whose horses start no more than n (0 to 9) times");
        UnderTheRope x = laid(five());
        int[] bits = {0, 62, 62, 62, 62, 62, 63, 63, 63, 63};
        for (int n = 0; n <= 9; n++) {
            due("bears(0, " + n + ")", x.bears(0, n), bits[n]);
        }
        UnderTheRope there = laid("b60,0,1,0,0;b0,1,1,0,0;b60,0,1,0,0;b0,1,1,0,0;b60,0,1,0,0;b0,0,1,0,0;");
        due("those who begin there", there.bears(0, 0), 31);
        due("and the last one", there.bears(0, 1), 63);
        due("of one boat: 0", laid("b0,0,1,0,0;").bears(0, 0), 0);
        due("of one boat: 9", laid("b0,0,1,0,0;").bears(0, 9), 1);
        says(28, "BAD");
        for (int n : new int[] {-1, 10, LEAST, MOST}) {
            due("bears(0, " + n + ")", x.bears(0, n), BAD);
        }
        for (int rule : new int[] {-1, 4, LEAST, MOST}) {
            due("bears(" + rule + ", 0)", x.bears(rule, 0), BAD);
        }
    }

    private static void bearsByRule() {
        says(28, "STARTS of a horse by a RULE");
        // By custom the empty boat 0 yields, by slow boat 1.
        UnderTheRope x = laid("b0,0,3,0,0;b11,1,1,1,0;");
        int[] once = {2, 2, 1, 2};
        for (int rule = 0; rule < 4; rule++) {
            due("bears(" + rule + ", 1)", x.bears(rule, 1), once[rule]);
            due("bears(" + rule + ", 2)", x.bears(rule, 2), 3);
            due("starts(" + rule + ", 0)", x.starts(rule, 0), rule == 2 ? 1 : 2);
            due("starts(" + rule + ", 1)", x.starts(rule, 1), rule == 2 ? 2 : 1);
        }
    }

    private static void drawsByHand() {
        says(29, "sent later by DRAW modulo 31 and has a LOAD of DRAW by 64, cut, modulo 10");
        // z 0, boat 0: x is 1, DRAW 1: a minute later, load 0. Boat 1: x 6152, DRAW 41487: 9 minutes later, load 8.
        due("boat 0 yields", laid("b0,0,1,9,3;b10,1,1,9,0;").day(0, 0, 0), 4);
        due("boat 1 yields", laid("b0,0,1,9,0;b10,1,1,9,3;").day(0, 0, 0), 12);
        // Boat 0 comes to 8 in minute 9; in minute 10 to 9, and boat 1 to 9.
        due("they meet", laid("b0,0,1,9,3;b10,1,1,9,0;").day(0, 0, 1), 1);
        due("at 9", laid("b0,0,1,9,3;b10,1,1,9,0;n9,9;").day(0, 0, 0), 10);
        due("not at 8", laid("b0,0,1,9,3;b10,1,1,9,0;n0,8;").day(0, 0, 0), 4);
        due("not at 10", laid("b0,0,1,9,3;b10,1,1,9,0;n10,60;").day(0, 0, 0), 4);
    }

    /** The same cut with the loads and the minutes that a day draws, set by load and later. */
    private static UnderTheRope drawn(String text, int z) {
        UnderTheRope x = laid(text);
        int boats = x.count(0);
        for (int i = 0; i < boats; i++) {
            BigInteger sum = BigInteger.valueOf(7919L * z).add(BigInteger.valueOf(6151L * i)).add(BigInteger.ONE);
            int draw = sum.multiply(sum).mod(BigInteger.valueOf(65521)).intValueExact();
            x.later(i, draw % 31);
            x.load(i, draw / 64 % 10);
        }
        return x;
    }

    private static void daysAsDrawn() {
        says(29, "A DAY by z (0 to 9999): how many minutes all together stand by a RULE; how many MEETINGS there are");
        String[] cuts = {Checks.FIRST, Checks.SIX, "b0,0,1,0,0;", "b0,0,1,0,2;b60,1,1,0,2;h30;n0,60;",
            "b10,0,1,0,0;b50,1,1,0,0;b10,0,2,0,1;b50,1,2,0,1;b0,0,3,0,3;b60,1,3,0,0;n20,40;"};
        int[] days = {0, 1, 2, 3, 30, 31, 63, 64, 271, 272, 542, 543, 999, 1000, 4999, 5000, 8273, 8274, 9996, 9997, 9998, 9999};
        for (String text : cuts) {
            for (int z : days) {
                UnderTheRope x = laid(text);
                UnderTheRope same = drawn(text, z);
                for (int rule = 0; rule < 4; rule++) {
                    String call = "day(" + rule + ", " + z + ", ";
                    due(call + "0) of " + text, x.day(rule, z, 0), same.stands(rule, -1));
                    due(call + "1) of " + text, x.day(rule, z, 1), same.meetings(rule));
                }
            }
        }
    }

    private static void dayOfAnyLoads() {
        says(29, "(nothing changes by it)");
        UnderTheRope x = laid(Checks.SIX);
        int before = x.day(0, 7, 0);
        int stands = x.stands(0, -1);
        for (int i = 0; i < 6; i++) {
            due("load as told", x.boat(i, 3), new int[] {3, 7, 0, 1, 9, 4}[i]);
            due("none later", x.boat(i, 5), 0);
        }
        due("nothing to undo", x.count(3), 0);
        due("the cut runs as it did", x.stands(0, -1), stands);
        for (int i = 0; i < 6; i++) {
            x.load(i, 9 - i);
            x.later(i, 5 * i);
        }
        due("what was changed counts for nothing", x.day(0, 7, 0), before);
        due("and stays", x.boat(5, 5), 25);
    }

    private static void dayRefused() {
        says(29, "BAD");
        UnderTheRope x = new UnderTheRope();
        for (int what = 0; what < 2; what++) {
            for (int z : new int[] {-1, 10000, LEAST, MOST}) {
                due("day(0, " + z + ", " + what + ")", x.day(0, z, what), BAD);
            }
            for (int rule : new int[] {-1, 4, LEAST, MOST}) {
                due("day(" + rule + ", 0, " + what + ")", x.day(rule, 0, what), BAD);
            }
        }
        for (int what : new int[] {-1, 2, LEAST, MOST}) {
            due("day(0, 0, " + what + ")", x.day(0, 0, what), BAD);
        }
    }
}
