/** The edges of promises 13 to 15 and 30 to 32: loads changed, boats sent later, undone, kept, counted. */
public final class ChangeEdgeTest {
    private static final int BAD = Checks.BAD, NO = Checks.NO, FULL = Checks.FULL, NONE = Checks.NONE;
    private static final int LEAST = Checks.LEAST, MOST = Checks.MOST;

    public static void main(String[] args) {
        loads();
        loadsActAtOnce();
        laters();
        inPlaceOfWhatItWas();
        nothingToUndo();
        latestFirst();
        changesOfNothing();
        theLastEight();
        eightOfManyKinds();
        undoneAndChangedAgain();
        undoKeepsTheRest();
        keepAtMostTwo();
        asKeptLast();
        keptIsNotChanged();
        keptAgain();
        nothingIsUndoneThen();
        nothingKept();
        backKeepsTheRest();
        counts();
        manyCalls();
        Checks.end("ChangeEdgeTest");
    }

    private static void says(int promise, String words) {
        Checks.says(promise, words);
    }

    private static void due(String call, int got, int want) {
        Checks.due(call, got, want);
    }

    private static void loads() {
        says(13, "A LOAD (0 to 9) is changed: what it was");
        UnderTheRope x = Checks.laid(Checks.SIX);
        int[] was = {3, 7, 0, 1, 9, 4};
        for (int i = 0; i < 6; i++) {
            for (int w = 0; w <= 9; w++) {
                due("load(" + i + ", " + w + ")", x.load(i, w), was[i]);
                due("boat(" + i + ", 3)", x.boat(i, 3), w);
                was[i] = w;
            }
        }
        for (int i = 0; i < 6; i++) {
            due("each its own", x.boat(i, 3), 9);
            due("none is sent later by it", x.boat(i, 5), 0);
        }
        says(13, "BAD");
        UnderTheRope y = Checks.laid(Checks.SIX);
        for (int w : new int[] {-1, 10, LEAST, MOST}) {
            due("load(0, " + w + ")", y.load(0, w), BAD);
            due("the load stays", y.boat(0, 3), 3);
        }
        for (int i : new int[] {-1, 6, LEAST, MOST}) {
            due("load(" + i + ", 0)", y.load(i, 0), BAD);
        }
        due("no change to undo", y.count(3), 0);
        due("load(4, 0) of four", new UnderTheRope().load(4, 0), BAD);
        due("load(3, 0) of four", new UnderTheRope().load(3, 0), 9);
    }

    private static void loadsActAtOnce() {
        says(13, "who is empty (LOAD 0), by the LOAD as it is");
        UnderTheRope x = Checks.laid("b0,0,1,1,0;b10,1,1,1,0;");
        due("both laden: down", x.who(0, 0, 1), 1);
        x.load(0, 0);
        due("up is empty", x.who(0, 0, 1), 0);
        due("up stands", x.stands(0, 0), 4);
        x.load(1, 0);
        due("both empty: down", x.who(0, 0, 1), 1);
        x.load(1, 9);
        due("fall", x.fall(0, 1, 0), NONE);
        due("caught", x.caught(1, 4, 10, 0), 1);
        due("rests", x.rests(0, 1, 0), 1);
    }

    private static void laters() {
        says(14, "A BOAT is sent later (by 0 to 30 minutes): by how many minutes it was");
        UnderTheRope x = Checks.laid(Checks.SIX);
        int was = 0;
        for (int d = 0; d <= 30; d++) {
            due("later(5, " + d + ")", x.later(5, d), was);
            due("boat(5, 5)", x.boat(5, 5), d);
            was = d;
        }
        due("later(0, 30)", x.later(0, 30), 0);
        due("later(0, 0)", x.later(0, 0), 30);
        due("the other one stays", x.boat(5, 5), 30);
        due("no load is changed by it", x.boat(5, 3), 4);
        says(14, "BAD");
        UnderTheRope y = Checks.laid(Checks.SIX);
        for (int d : new int[] {-1, 31, LEAST, MOST}) {
            due("later(0, " + d + ")", y.later(0, d), BAD);
            due("it stays", y.boat(0, 5), 0);
        }
        for (int i : new int[] {-1, 6, LEAST, MOST}) {
            due("later(" + i + ", 0)", y.later(i, 0), BAD);
        }
        due("no change to undo", y.count(3), 0);
        due("later(4, 1) of four", new UnderTheRope().later(4, 1), BAD);
        due("later(3, 1) of four", new UnderTheRope().later(3, 1), 0);
    }

    private static void inPlaceOfWhatItWas() {
        says(14, "in place of what it was");
        UnderTheRope x = Checks.laid("b0,0,1,0,0;");
        x.later(0, 20);
        due("later(0, 15)", x.later(0, 15), 20);
        due("boat(0, 5)", x.boat(0, 5), 15);
        due("stands 15", x.where(0, 0, 15), 0);
        due("not 35", x.where(0, 0, 16), 1);
        due("later(0, 0)", x.later(0, 0), 15);
        due("at once", x.where(0, 0, 1), 1);
    }

    private static void nothingToUndo() {
        says(15, "NO");
        due("of a new object", new UnderTheRope().undo(), NO);
        UnderTheRope x = new UnderTheRope();
        x.load(0, 10);
        x.later(9, 0);
        x.keep();
        x.seen(0, 1);
        x.write('y');
        due("none of these is a change", x.undo(), NO);
        x.load(0, 5);
        due("undo()", x.undo(), 0);
        due("undo() again", x.undo(), NO);
        due("nothing changes then", x.boat(0, 3), 3);
    }

    private static void latestFirst() {
        says(15, "UNDONE is the latest of these: how many more can be");
        UnderTheRope x = new UnderTheRope();
        x.load(0, 8);
        x.later(0, 7);
        x.load(1, 6);
        x.later(0, 5);
        due("later", x.undo(), 3);
        due("is 7 again", x.boat(0, 5), 7);
        due("the loads stay", x.boat(1, 3), 6);
        due("load of 1", x.undo(), 2);
        due("is 0 again", x.boat(1, 3), 0);
        due("later stays", x.boat(0, 5), 7);
        due("later", x.undo(), 1);
        due("is 0 again", x.boat(0, 5), 0);
        due("load of 0", x.undo(), 0);
        due("is 3 again", x.boat(0, 3), 3);
    }

    private static void changesOfNothing() {
        says(15, "such by which nothing becomes another, too");
        UnderTheRope x = new UnderTheRope();
        x.load(0, 7);
        x.load(0, 7);
        x.later(0, 0);
        due("all three can be", x.count(3), 3);
        due("the later of nothing", x.undo(), 2);
        due("the load of nothing", x.undo(), 1);
        due("the load stays", x.boat(0, 3), 7);
        due("the first one", x.undo(), 0);
        due("the load is as told", x.boat(0, 3), 3);
    }

    private static void theLastEight() {
        says(15, "the last 8 can be");
        for (int many = 0; many <= 20; many++) {
            UnderTheRope x = new UnderTheRope();
            for (int k = 1; k <= many; k++) {
                due("later(0, " + k + ")", x.later(0, k), k - 1);
                due("count(3) behind " + k, x.count(3), Math.min(k, 8));
            }
            int can = Math.min(many, 8);
            for (int k = 1; k <= can; k++) {
                due("undo " + k + " of " + many, x.undo(), can - k);
                due("as it was", x.boat(0, 5), many - k);
                due("count(3)", x.count(3), can - k);
            }
            due("a ninth of " + many, x.undo(), NO);
            due("as it was then", x.boat(0, 5), many - can);
        }
    }

    private static int[] loadsAndLaters(UnderTheRope x) {
        int[] all = new int[12];
        for (int i = 0; i < 6; i++) {
            all[i] = x.boat(i, 3);
            all[6 + i] = x.boat(i, 5);
        }
        return all;
    }

    private static void eightOfManyKinds() {
        says(15, "the last 8 can be, of loads and of being sent later together");
        // Whose, and whether a load: no row of nine is alike when it is moved on by one or by two.
        int[] whose = {0, 1, 2, 3, 4, 5, 0, 3, 1, 1, 5, 2, 2, 4, 0, 0, 5};
        boolean[] ofLoad = {true, false, false, true, true, true, false, true, false, false, true, false, true, true, false, true, false};
        for (int many = 1; many <= whose.length; many++) {
            UnderTheRope x = Checks.laid(Checks.SIX);
            int[][] before = new int[many][12];
            int[] now = loadsAndLaters(x);
            for (int k = 0; k < many; k++) {
                before[k] = now.clone();
                int i = whose[k];
                int to = ofLoad[k] ? (now[i] + 3) % 10 : k + 1;
                due("what it was", ofLoad[k] ? x.load(i, to) : x.later(i, to), now[ofLoad[k] ? i : 6 + i]);
                now[ofLoad[k] ? i : 6 + i] = to;
            }
            int can = Math.min(many, 8);
            for (int k = 1; k <= can; k++) {
                due("undo " + k + " of " + many, x.undo(), can - k);
                Checks.due("all boats behind undo " + k + " of " + many, java.util.Arrays.toString(loadsAndLaters(x)),
                    java.util.Arrays.toString(before[many - k]));
            }
            due("undo a ninth of " + many, x.undo(), NO);
        }
    }

    private static void undoneAndChangedAgain() {
        says(15, "UNDONE is the latest of these: what is UNDONE comes not again");
        UnderTheRope x = new UnderTheRope();
        for (int k = 1; k <= 12; k++) {
            x.later(0, k);
        }
        for (int k = 0; k < 5; k++) {
            x.undo();
        }
        due("as it was", x.boat(0, 5), 7);
        due("three more", x.count(3), 3);
        for (int k = 21; k <= 27; k++) {
            x.later(0, k);
        }
        due("eight again", x.count(3), 8);
        int[] was = {26, 25, 24, 23, 22, 21, 7, 6};
        for (int k = 0; k < 8; k++) {
            due("undo()", x.undo(), 7 - k);
            due("as it was", x.boat(0, 5), was[k]);
        }
        due("undo()", x.undo(), NO);
        due("behind the last one", x.boat(0, 5), 6);
    }

    private static void undoKeepsTheRest() {
        says(15, "UNDONE are changes alone");
        UnderTheRope x = new UnderTheRope();
        x.seen(0, 1);
        x.load(0, 9);
        x.keep();
        x.write('y');
        x.undo();
        due("seen", x.count(2), 1);
        due("kept", x.count(4), 1);
        due("letters", x.count(5), 1);
        due("back()", x.back(), 0);
        due("as kept", x.boat(0, 3), 9);
    }

    private static void keepAtMostTwo() {
        says(30, "KEPT: how many. FULL (2 at most)");
        UnderTheRope x = new UnderTheRope();
        due("count(4)", x.count(4), 0);
        due("one", x.keep(), 1);
        due("two", x.keep(), 2);
        x.load(0, 9);
        due("three", x.keep(), FULL);
        due("and again", x.keep(), FULL);
        due("count(4)", x.count(4), 2);
        due("the load stays", x.boat(0, 3), 9);
        due("it can be undone still", x.count(3), 1);
        due("back()", x.back(), 1);
        due("the third one was not kept", x.boat(0, 3), 3);
    }

    private static void asKeptLast() {
        says(31, "As KEPT last (it is KEPT no more then): how many are left");
        UnderTheRope x = Checks.laid(Checks.SIX);
        for (int i = 0; i < 6; i++) {
            x.load(i, i);
            x.later(i, 30 - i);
        }
        x.keep();
        for (int i = 0; i < 6; i++) {
            x.load(i, 9 - i);
            x.later(i, i);
        }
        x.keep();
        for (int i = 0; i < 6; i++) {
            x.load(i, 5);
            x.later(i, 15);
        }
        due("back()", x.back(), 1);
        for (int i = 0; i < 6; i++) {
            due("load of " + i, x.boat(i, 3), 9 - i);
            due("later of " + i, x.boat(i, 5), i);
        }
        due("back()", x.back(), 0);
        for (int i = 0; i < 6; i++) {
            due("load of " + i, x.boat(i, 3), i);
            due("later of " + i, x.boat(i, 5), 30 - i);
        }
        due("back()", x.back(), NO);
        due("where by it", x.where(0, 0, 30), 0);
        due("and on", x.where(0, 0, 31), 2);
    }

    private static void keptIsNotChanged() {
        says(30, "KEPT are LOADS, how much later BOATS are sent: as they were");
        UnderTheRope x = new UnderTheRope();
        x.load(0, 1);
        x.later(0, 2);
        x.keep();
        x.undo();
        x.undo();
        due("undone", x.boat(0, 3), 3);
        due("back()", x.back(), 0);
        due("load", x.boat(0, 3), 1);
        due("later", x.boat(0, 5), 2);
    }

    private static void keptAgain() {
        says(30, "KEPT: 2 at most, again and again");
        UnderTheRope x = new UnderTheRope();
        for (int k = 0; k < 20; k++) {
            x.later(0, k);
            due("keep()", x.keep(), 1);
            x.later(0, 30);
            due("keep()", x.keep(), 2);
            due("keep()", x.keep(), FULL);
            x.later(0, 29);
            due("back()", x.back(), 1);
            due("the second", x.boat(0, 5), 30);
            due("back()", x.back(), 0);
            due("the first", x.boat(0, 5), k);
            due("back()", x.back(), NO);
        }
        x.later(0, 1);
        x.keep();
        x.later(0, 2);
        x.keep();
        x.back();
        x.later(0, 3);
        due("the second place again", x.keep(), 2);
        x.later(0, 4);
        x.back();
        due("as kept last", x.boat(0, 5), 3);
        x.back();
        due("the first one stays", x.boat(0, 5), 1);
    }

    private static void nothingIsUndoneThen() {
        says(31, "nothing is UNDONE then");
        UnderTheRope x = new UnderTheRope();
        x.keep();
        for (int k = 1; k <= 9; k++) {
            x.load(0, k);
        }
        due("eight", x.count(3), 8);
        due("back()", x.back(), 0);
        due("none", x.count(3), 0);
        due("undo()", x.undo(), NO);
        due("as kept", x.boat(0, 3), 3);
        x.load(0, 5);
        due("a change behind it", x.undo(), 0);
        due("as kept", x.boat(0, 3), 3);
    }

    private static void nothingKept() {
        says(31, "NO");
        due("of a new object", new UnderTheRope().back(), NO);
        UnderTheRope x = new UnderTheRope();
        x.load(0, 5);
        due("back()", x.back(), NO);
        due("the load stays", x.boat(0, 3), 5);
        due("it can be undone still", x.count(3), 1);
        due("undo()", x.undo(), 0);
        due("as told", x.boat(0, 3), 3);
    }

    private static void backKeepsTheRest() {
        says(31, "KEPT are LOADS and how much later BOATS are sent alone");
        UnderTheRope x = new UnderTheRope();
        x.keep();
        x.seen(0, 1);
        x.write('y');
        due("back()", x.back(), 0);
        due("seen", x.count(2), 1);
        due("letters", x.count(5), 1);
        due("boats", x.count(0), 4);
        due("narrow", x.count(1), 1);
    }

    private static void counts() {
        says(32, "How many: 0 BOATS, 1 NARROW places, 2 SEEN, 3 that can be UNDONE, 4 KEPT, 5 letters of THE TEXT");
        UnderTheRope x = Checks.laid("b0,0,1,0,0;b10,1,1,0,0;".repeat(3) + "n1,1;n2,2;n3,3;" + "y1;".repeat(38));
        int[] full = {6, 3, 0, 0, 0, 198};
        told(x, full);
        for (int k = 1; k <= 8; k++) {
            x.seen(0, 1);
            x.load(0, k);
            full[2] = k;
            full[3] = k;
            told(x, full);
        }
        x.seen(0, 1);
        x.load(0, 0);
        told(x, full);
        x.keep();
        full[4] = 1;
        told(x, full);
        x.keep();
        full[4] = 2;
        told(x, full);
        x.keep();
        told(x, full);
        x.write('y');
        x.write('1');
        full[5] = 200;
        told(x, full);
        x.write(';');
        told(x, full);
        x.forget();
        x.wipe();
        full[2] = 0;
        full[5] = 0;
        told(x, full);
        says(32, "BAD");
        for (int what : new int[] {-1, 6, LEAST, MOST}) {
            due("count(" + what + ")", x.count(what), BAD);
        }
        told(Checks.laid("b0,0,1,0,0;"), new int[] {1, 0, 0, 0, 0, 11});
    }

    private static void told(UnderTheRope x, int[] want) {
        for (int what = 0; what < 6; what++) {
            due("count(" + what + ")", x.count(what), want[what]);
        }
    }

    private static void manyCalls() {
        says(13, "An object is used for at most 512 calls");
        UnderTheRope x = new UnderTheRope();
        int was = 3;
        for (int call = 1; call <= 510; call++) {
            int w = (call * 7) % 10;
            due("load, call " + call, x.load(0, w), was);
            was = w;
        }
        due("count(3), call 511", x.count(3), 8);
        due("undo(), call 512", x.undo(), 7);
        UnderTheRope y = new UnderTheRope();
        for (int call = 1; call <= 512; call++) {
            due("write, call " + call, y.write('y'), call <= 200 ? call : FULL);
        }
        UnderTheRope z = new UnderTheRope();
        for (int call = 1; call <= 511; call += 2) {
            due("seen, call " + call, z.seen(1, 0), 1);
            due("forget, call " + (call + 1), z.forget(), 1);
        }
    }
}
