import java.math.BigInteger;

/** The edges of promises 21 to 26: when a line has to fall, whether it is caught, rests, what was seen, what fits. */
public final class LineEdgeTest {
    private static final int BAD = Checks.BAD, NO = Checks.NO, FULL = Checks.FULL, NONE = Checks.NONE;
    private static final int LEAST = Checks.LEAST, MOST = Checks.MOST;

    public static void main(String[] args) {
        fallForAllLines();
        fallAheadOfNone();
        fallOfAnyTwo();
        caughtForAllLines();
        caughtAtTheEdges();
        caughtRefused();
        restsForAll();
        restsAtTheEdges();
        seenAtMostEight();
        seenRefused();
        forget();
        fitsOfNothing();
        fitsByBits();
        fitsOfSeveral();
        fitsAsLoadsAre();
        Checks.end("LineEdgeTest");
    }

    private static void says(int promise, String words) {
        Checks.says(promise, words);
    }

    private static void due(String call, int got, int want) {
        Checks.due(call, got, want);
    }

    private static UnderTheRope laid(String text) {
        return Checks.laid(text);
    }

    /** In how many minutes a line that sinks so many feet in each is as deep as a load and 1. */
    private static int minutesTo(int load, int feet) {
        int minutes = 0;
        for (int depth = 0; depth < load + 1; depth += feet) {
            minutes++;
        }
        return minutes;
    }

    private static void fallForAllLines() {
        says(21, "how many minutes ahead its line has to fall at least, so that it has sunk to the other one's LOAD and 1 feet; "
            + "at most R; none (it would have to fall earlier)");
        for (int l = 1; l <= 5; l++) {
            for (int r = 1; r <= 9; r++) {
                UnderTheRope x = laid("b0,0,1,0,0;b10,1,1,0,0;l" + l + "," + r + ";");
                for (int w = 0; w <= 9; w++) {
                    x.load(1, w);
                    int least = minutesTo(w, l);
                    String cut = " of l" + l + "," + r + " under a load of " + w;
                    due("fall(0, 1, 0)" + cut, x.fall(0, 1, 0), least <= r ? least : NONE);
                    due("fall(0, 1, 1)" + cut, x.fall(0, 1, 1), least <= r ? r : NONE);
                    // Its own load counts for nothing: the other one's does.
                    due("fall(1, 0, 0)" + cut, x.fall(1, 0, 0), 1);
                }
            }
        }
        due("just R", laid("b0,0,1,0,0;b10,1,1,8,0;l1,9;").fall(0, 1, 0), 9);
        due("just R: at most", laid("b0,0,1,0,0;b10,1,1,8,0;l1,9;").fall(0, 1, 1), 9);
        due("a minute earlier than R", laid("b0,0,1,0,0;b10,1,1,9,0;l1,9;").fall(0, 1, 0), NONE);
    }

    private static void fallAheadOfNone() {
        says(21, "BAD (alike, too) ahead of NONE");
        UnderTheRope x = laid("b0,0,1,9,0;b10,1,1,9,0;l1,1;");
        due("fall(0, 1, 0)", x.fall(0, 1, 0), NONE);
        due("fall(0, 1, 1)", x.fall(0, 1, 1), NONE);
        for (int what : new int[] {-1, 2, LEAST, MOST}) {
            due("fall(0, 1, " + what + ")", x.fall(0, 1, what), BAD);
        }
        for (int i = 0; i < 2; i++) {
            due("alike: at least", x.fall(i, i, 0), BAD);
            due("alike: at most", x.fall(i, i, 1), BAD);
        }
        for (int i : new int[] {-1, 2, 6, LEAST, MOST}) {
            due("fall(" + i + ", 0, 0)", x.fall(i, 0, 0), BAD);
            due("fall(0, " + i + ", 0)", x.fall(0, i, 0), BAD);
            due("fall(" + i + ", " + i + ", 1)", x.fall(i, i, 1), BAD);
        }
    }

    private static void fallOfAnyTwo() {
        says(21, "FALL for one who yields to another one: no refusal of one way is told");
        UnderTheRope x = laid(Checks.SIX);
        // Loads 3, 7, 0, 1, 9, 4; three feet a minute, at most 5.
        int[] least = {2, 3, 1, 1, 4, 2};
        for (int i = 0; i < 6; i++) {
            for (int j = 0; j < 6; j++) {
                due("fall(" + i + ", " + j + ", 0)", x.fall(i, j, 0), i == j ? BAD : least[j]);
                due("fall(" + i + ", " + j + ", 1)", x.fall(i, j, 1), i == j ? BAD : 5);
            }
        }
    }

    /** Of ten to the power of f ways, those in which it has sunk in k minutes, minute by minute. */
    private static BigInteger[] waysToSink(int f, int x) {
        BigInteger[] ways = new BigInteger[f + 1];
        java.util.Arrays.fill(ways, BigInteger.ZERO);
        ways[0] = BigInteger.ONE;
        for (int minute = 1; minute <= f; minute++) {
            for (int k = minute; k >= 0; k--) {
                BigInteger sinks = k == 0 ? BigInteger.ZERO : ways[k - 1].multiply(BigInteger.valueOf(x));
                ways[k] = ways[k].multiply(BigInteger.valueOf(10 - x)).add(sinks);
            }
        }
        return ways;
    }

    private static void caughtForAllLines() {
        says(22, "if it falls f (0 to 6) minutes ahead and sinks in each by the chance of x (0 to 10) of ten only: "
            + "how likely it has not sunk so deep, in lowest terms");
        for (int l = 1; l <= 5; l++) {
            for (int w = 0; w <= 9; w++) {
                UnderTheRope rope = laid("b0,0,1," + w + ",0;l" + l + ",1;");
                for (int f = 0; f <= 6; f++) {
                    for (int x = 0; x <= 10; x++) {
                        BigInteger above = BigInteger.ZERO;
                        BigInteger[] ways = waysToSink(f, x);
                        for (int k = 0; k <= f; k++) {
                            above = k * l < w + 1 ? above.add(ways[k]) : above;
                        }
                        BigInteger below = BigInteger.TEN.pow(f);
                        BigInteger common = above.gcd(below);
                        String call = "caught(0, " + f + ", " + x + ", .) of l" + l + ", load " + w;
                        due(call + " above", rope.caught(0, f, x, 0), above.divide(common).intValueExact());
                        due(call + " below", rope.caught(0, f, x, 1), below.divide(common).intValueExact());
                    }
                }
            }
        }
    }

    private static void fraction(UnderTheRope rope, int f, int x, int above, int below) {
        due("caught(0, " + f + ", " + x + ", 0)", rope.caught(0, f, x, 0), above);
        due("caught(0, " + f + ", " + x + ", 1)", rope.caught(0, f, x, 1), below);
    }

    private static void caughtAtTheEdges() {
        says(22, "in lowest terms, at the edges of f and x");
        UnderTheRope one = laid("b0,0,1,0,0;l1,1;");
        fraction(one, 0, 0, 1, 1);
        fraction(one, 0, 10, 1, 1);
        fraction(one, 1, 0, 1, 1);
        fraction(one, 1, 1, 9, 10);
        fraction(one, 1, 9, 1, 10);
        fraction(one, 1, 10, 0, 1);
        fraction(one, 6, 0, 1, 1);
        fraction(one, 6, 1, 531441, 1000000);
        fraction(one, 6, 9, 1, 1000000);
        fraction(one, 6, 10, 0, 1);
        fraction(one, 6, 5, 1, 64);
        UnderTheRope six = laid("b0,0,1,5,0;l1,1;");
        fraction(six, 6, 10, 0, 1);
        fraction(six, 5, 10, 1, 1);
        fraction(six, 6, 1, 999999, 1000000);
        fraction(six, 6, 5, 63, 64);
        UnderTheRope seven = laid("b0,0,1,6,0;l1,1;");
        fraction(seven, 6, 10, 1, 1);
        fraction(seven, 6, 5, 1, 1);
    }

    private static void caughtRefused() {
        says(22, "BAD");
        UnderTheRope x = laid("b0,0,1,0,0;b10,1,1,0,0;");
        for (int j : new int[] {-1, 2, 6, LEAST, MOST}) {
            due("caught(" + j + ", 0, 0, 0)", x.caught(j, 0, 0, 0), BAD);
        }
        for (int f : new int[] {-1, 7, LEAST, MOST}) {
            due("caught(0, " + f + ", 0, 0)", x.caught(0, f, 0, 0), BAD);
        }
        for (int chance : new int[] {-1, 11, LEAST, MOST}) {
            due("caught(0, 0, " + chance + ", 0)", x.caught(0, 0, chance, 0), BAD);
        }
        for (int part : new int[] {-1, 2, LEAST, MOST}) {
            due("caught(0, 0, 0, " + part + ")", x.caught(0, 0, 0, part), BAD);
        }
        due("caught(1, 6, 10, 1)", x.caught(1, 6, 10, 1), 1);
    }

    /** What the first one stands, if he yields or not and the other one does or not. */
    private static int cost(boolean yields, boolean otherYields, int yielding, int held) {
        return yields ? yielding : otherYields ? 0 : held;
    }

    private static void restsForAll() {
        says(23, "in how many of the four ways neither would stand less by doing otherwise alone; the first");
        boolean[][] ways = {{true, true}, {true, false}, {false, true}, {false, false}};
        for (int y = 1; y <= 9; y++) {
            for (int h = 1; h <= 30; h++) {
                for (int w = 0; w <= 9; w++) {
                    UnderTheRope x = laid("b0,0,1," + w + ",0;b10,1,1,0,0;y" + y + ";h" + h + ";");
                    for (int v = 0; v <= 9; v++) {
                        x.load(1, v);
                        int many = 0;
                        int first = NONE;
                        for (int k = 3; k >= 0; k--) {
                            boolean a = ways[k][0];
                            boolean b = ways[k][1];
                            if (cost(a, b, y + w, h) <= cost(!a, b, y + w, h) && cost(b, a, y + v, h) <= cost(!b, a, y + v, h)) {
                                many++;
                                first = k;
                            }
                        }
                        String cut = " of y" + y + ", h" + h + ", loads " + w + ", " + v;
                        due("rests(0, 1, 0)" + cut, x.rests(0, 1, 0), many);
                        due("rests(0, 1, 1)" + cut, x.rests(0, 1, 1), first);
                    }
                }
            }
        }
    }

    private static void restsAtTheEdges() {
        says(23, "0 both yield, 1 the first one alone yields, 2 the other one alone, 3 both hold out");
        // Who yields stands 10 and 11; held they stand 9, 10, 11, 12.
        int[] many = {1, 2, 2, 2};
        int[] first = {3, 1, 1, 1};
        for (int k = 0; k < 4; k++) {
            UnderTheRope x = laid("b0,0,1,1,0;b10,1,1,2,0;y9;h" + (9 + k) + ";");
            due("h" + (9 + k), x.rests(0, 1, 0), many[k]);
            due("h" + (9 + k) + ": the first", x.rests(0, 1, 1), first[k]);
            due("h" + (9 + k) + ", turned", x.rests(1, 0, 0), many[k]);
        }
        UnderTheRope edge = laid("b0,0,1,1,0;b10,1,1,2,0;y9;h10;");
        due("turned: the other one alone, and both hold out", edge.rests(1, 0, 1), 2);
        edge.load(1, 1);
        due("all that can be", edge.rests(0, 1, 0), 3);
        says(23, "BAD (alike, too)");
        for (int what : new int[] {-1, 2, LEAST, MOST}) {
            due("rests(0, 1, " + what + ")", edge.rests(0, 1, what), BAD);
        }
        for (int i : new int[] {-1, 2, 6, LEAST, MOST}) {
            due("rests(" + i + ", 0, 0)", edge.rests(i, 0, 0), BAD);
            due("rests(0, " + i + ", 0)", edge.rests(0, i, 0), BAD);
            due("rests(" + i + ", " + i + ", 0)", edge.rests(i, i, 0), BAD);
        }
        due("alike", edge.rests(0, 0, 0), BAD);
        due("alike", edge.rests(1, 1, 1), BAD);
        due("of one way", new UnderTheRope().rests(0, 3, 0), 1);
    }

    private static void seenAtMostEight() {
        says(24, "SEEN (8 at most): how many. FULL");
        UnderTheRope x = new UnderTheRope();
        for (int k = 1; k <= 8; k++) {
            due("count(2)", x.count(2), k - 1);
            due("seen(1, 0)", x.seen(1, 0), k);
        }
        due("fits()", x.fits(), 15);
        due("a ninth", x.seen(0, 1), FULL);
        due("a tenth", x.seen(1, 0), FULL);
        due("count(2)", x.count(2), 8);
        due("nothing changes by it", x.fits(), 15);
        says(24, "NO ahead of FULL");
        due("of one way, up", x.seen(0, 3), NO);
        due("of one way, down", x.seen(2, 1), NO);
        says(24, "BAD ahead of FULL");
        due("alike", x.seen(1, 1), BAD);
        due("none", x.seen(4, 0), BAD);
        due("none", x.seen(0, -1), BAD);
        due("count(2)", x.count(2), 8);
    }

    private static void seenRefused() {
        says(24, "BAD (alike, too); NO: of one way");
        UnderTheRope x = laid(Checks.SIX);
        int[] way = {0, 1, 1, 0, 1, 0};
        for (int i = 0; i < 6; i++) {
            for (int j = 0; j < 6; j++) {
                int want = i == j ? BAD : way[i] == way[j] ? NO : 1;
                due("seen(" + i + ", " + j + ")", x.seen(i, j), want);
                due("forget()", x.forget(), Math.max(want, 0));
            }
        }
        for (int i : new int[] {-1, 6, LEAST, MOST}) {
            due("seen(" + i + ", 1)", x.seen(i, 1), BAD);
            due("seen(0, " + i + ")", x.seen(0, i), BAD);
            due("seen(" + i + ", " + i + ")", x.seen(i, i), BAD);
        }
        due("count(2)", x.count(2), 0);
        due("seen(0, 4) of four", new UnderTheRope().seen(0, 4), BAD);
        UnderTheRope one = laid("b0,0,1,0,0;");
        due("of one: alike", one.seen(0, 0), BAD);
        due("of one: none", one.seen(0, 1), BAD);
    }

    private static void forget() {
        says(25, "Nothing is SEEN: how many were");
        UnderTheRope x = new UnderTheRope();
        due("nothing", x.forget(), 0);
        for (int many = 1; many <= 8; many++) {
            for (int k = 0; k < many; k++) {
                x.seen(0, 1);
            }
            due("forget() of " + many, x.forget(), many);
            due("count(2)", x.count(2), 0);
            due("fits()", x.fits(), 15);
            due("forget() again", x.forget(), 0);
        }
        due("from the beginning", x.seen(0, 1), 1);
    }

    private static void fitsOfNothing() {
        says(26, "FITS of nothing SEEN");
        due("a new object", new UnderTheRope().fits(), 15);
        due("of one boat", laid("b0,0,1,0,0;").fits(), 15);
        UnderTheRope x = new UnderTheRope();
        x.seen(0, 0);
        x.seen(0, 3);
        due("behind refused ones", x.fits(), 15);
    }

    /** Whether the one that goes up yields by CUSTOM (1), LIGHT and LOSS (2 and 8), SLOW (4). */
    private static void fitsByBits() {
        says(26, "RULES (bits) by which, if these two MET, each would");
        String[] cuts = {"b0,0,3,9,1;b10,1,1,5,0;", "b0,0,3,9,0;b10,1,1,5,1;", "b0,0,1,9,1;b10,1,3,5,0;", "b0,0,1,9,0;b10,1,3,5,1;",
            "b0,0,3,1,1;b10,1,1,5,0;", "b0,0,3,1,0;b10,1,1,5,1;", "b0,0,1,1,1;b10,1,3,5,0;", "b0,0,1,0,0;b10,1,3,5,1;"};
        int[] bits = {0, 1, 4, 5, 10, 11, 14, 15};
        for (int k = 0; k < 8; k++) {
            UnderTheRope x = laid(cuts[k]);
            x.seen(0, 1);
            due("up yielded, " + cuts[k], x.fits(), bits[k]);
            x.forget();
            x.seen(1, 0);
            due("down yielded, " + cuts[k], x.fits(), 15 - bits[k]);
        }
        says(26, "each would (whether they do or not)");
        UnderTheRope apart = laid("b40,0,1,0,0;b10,1,3,5,1;");
        apart.seen(0, 1);
        due("they never meet", apart.fits(), 15);
        UnderTheRope held = laid("b0,0,1,0,2;b10,1,3,5,2;");
        held.seen(0, 1);
        due("held: none yields", held.fits(), 0);
        UnderTheRope stubborn = laid("b0,0,1,0,2;b10,1,3,5,0;");
        stubborn.seen(0, 1);
        due("a stubborn one does not", stubborn.fits(), 0);
        UnderTheRope polite = laid("b0,0,3,9,3;b10,1,1,0,0;");
        polite.seen(0, 1);
        due("a polite one does", polite.fits(), 15);
    }

    private static void fitsOfSeveral() {
        says(26, "each would");
        // Up yields to boat 1 by 0, 1, 3 and to boat 2 by 1, 2, 3.
        UnderTheRope x = laid("b0,0,2,1,0;b10,1,1,5,1;b10,1,3,5,0;");
        x.seen(0, 1);
        due("the first", x.fits(), 11);
        x.seen(0, 2);
        due("both", x.fits(), 10);
        for (int k = 0; k < 5; k++) {
            x.seen(0, 1);
        }
        due("the same again and again", x.fits(), 10);
        x.seen(1, 0);
        due("the eighth counts, too", x.fits(), 0);
        x.forget();
        x.seen(2, 0);
        due("the other way round", x.fits(), 1);
    }

    private static void fitsAsLoadsAre() {
        says(26, "LOADS as they are");
        UnderTheRope x = laid("b0,0,1,1,0;b10,1,1,5,0;");
        x.seen(0, 1);
        due("laden", x.fits(), 10);
        x.load(0, 0);
        due("empty", x.fits(), 15);
        x.load(0, 9);
        due("heavy", x.fits(), 0);
        x.undo();
        due("undone", x.fits(), 15);
        x.undo();
        due("as told", x.fits(), 10);
    }
}
