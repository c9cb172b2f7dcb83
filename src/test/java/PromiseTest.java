/** Each promise of the document: ordinary calls, the edges that it names, wrong inputs. Answers worked out by hand. */
public final class PromiseTest {
    private static final int BAD = -1, NO = -2, FULL = -3, NONE = -4;
    private static int wrong = 0;

    public static void main(String[] args) {
        newObject();
        writeAndWipe();
        fault();
        lay();
        boat();
        where();
        there();
        stands();
        yields();
        meetings();
        kinds();
        ruleOfLight();
        load();
        later();
        undo();
        who();
        bestAndCustom();
        send();
        swap();
        fall();
        caught();
        rests();
        seen();
        fits();
        starts();
        bears();
        day();
        keepAndBack();
        count();
        badRulesAndBoats();
        System.out.println(wrong == 0 ? "every promise holds" : wrong + " answers are not as due");
        if (wrong != 0) {
            System.exit(1);
        }
    }

    private static void due(int promise, String call, int got, int want) {
        if (got != want) {
            wrong++;
            System.out.println("promise " + promise + ": " + call + " answered " + got + ", due is " + want);
        }
    }

    private static void put(UnderTheRope x, String text) {
        for (char letter : text.toCharArray()) {
            x.write(letter);
        }
    }

    private static UnderTheRope laid(String text) {
        UnderTheRope x = new UnderTheRope();
        put(x, text);
        if (x.lay() < 1) {
            wrong++;
            System.out.println("not laid: " + text);
        }
        return x;
    }

    private static int faultOf(String text) {
        UnderTheRope x = new UnderTheRope();
        put(x, text);
        return x.fault();
    }

    private static void newObject() {
        UnderTheRope x = new UnderTheRope();
        int[][] boats = {{0, 0, 2, 3, 0, 0}, {60, 1, 2, 0, 0, 0}, {50, 1, 1, 5, 1, 0}, {10, 0, 1, 9, 2, 0}};
        for (int i = 0; i < 4; i++) {
            for (int what = 0; what < 6; what++) {
                due(1, "boat(" + i + ", " + what + ")", x.boat(i, what), boats[i][what]);
            }
        }
        int[] counts = {4, 1, 0, 0, 0, 0};
        for (int what = 0; what < 6; what++) {
            due(1, "count(" + what + ")", x.count(what), counts[what]);
        }
        due(1, "fault()", x.fault(), NONE);
        due(1, "wipe()", x.wipe(), 0);
        due(1, "fall: R", x.fall(0, 1, 1), 4);
    }

    private static void writeAndWipe() {
        UnderTheRope x = new UnderTheRope();
        due(2, "write(31)", x.write(31), BAD);
        due(2, "write(127)", x.write(127), BAD);
        due(2, "write(-1)", x.write(-1), BAD);
        due(2, "write(65536 + 98)", x.write(65536 + 98), BAD);
        due(2, "write(32)", x.write(32), 1);
        due(2, "write(126)", x.write(126), 2);
        for (int k = 3; k <= 200; k++) {
            due(2, "write(59)", x.write(59), k);
        }
        due(2, "write(59) when full", x.write(59), FULL);
        due(2, "write(31) when full", x.write(31), BAD);
        due(2, "count(5) when full", x.count(5), 200);
        due(3, "wipe()", x.wipe(), 200);
        due(3, "wipe() again", x.wipe(), 0);
        due(2, "write(98) behind wipe", x.write(98), 1);
    }

    private static void fault() {
        due(4, "empty", faultOf(""), NONE);
        String[] fine = {"b0,0,1,0,0;", "b60,1,3,9,3;", "b00,00,01,09,03;", "n0,0;", "n0,60;n60,60;n5,5;", "y1;", "y9;",
            "y09;", "h1;", "h30;", "l1,1;", "l5,9;", "y1;y2;y3;y4;h1;h2;l1,1;l2,2;"};
        for (String text : fine) {
            due(4, text, faultOf(text), NONE);
        }
        String[] broken = {"b61,0,1,0,0;", "b0,2,1,0,0;", "b0,0,0,0,0;", "b0,0,4,0,0;", "b0,0,1,10,0;", "b0,0,1,0,4;",
            "b0,0,1,0;", "b0,0,1,0,0,0;", "b0,0,1,0,0", "b0,0,1,0,0,", "b000,0,1,0,0;", "b,0,1,0,0;", "b0,,1,0,0;", "b", "b0",
            "b-1,0,1,0,0;", "b 0,0,1,0,0;", "b0;0,1,0,0;", "n5,4;", "n0,61;", "n61,61;", "n5;", "n1,2,3;", "y0;", "y10;",
            "y;", "y1", "y1,2;", "h0;", "h31;", "h001;", "l0,1;", "l6,1;", "l1,0;", "l1,10;", "l1;", "x1;", ";", " ", "B0,0,1,0,0;",
            "1", ","};
        for (String text : broken) {
            due(4, text, faultOf(text), 0);
            due(4, "y3; " + text, faultOf("y3;" + text), 3);
            due(4, "broken ahead of broken " + text, faultOf("h9;" + text + "q"), 3);
        }
        String six = "b0,0,1,0,0;".repeat(6);
        due(4, "six boats", faultOf(six), NONE);
        due(4, "seven boats", faultOf(six + "y1;b0,0,1,0,0;"), 69);
        due(4, "three narrow", faultOf("n1,2;".repeat(3)), NONE);
        due(4, "four narrow", faultOf("n1,2;".repeat(4)), 15);
        due(4, "200 letters", faultOf("y1;".repeat(66)), NONE);
        due(4, "cut off by 200 letters", faultOf("y1;".repeat(67)), 198);
    }

    private static void lay() {
        UnderTheRope x = new UnderTheRope();
        due(5, "empty", x.lay(), NO);
        put(x, "n1,2;y3;");
        due(5, "no boat", x.lay(), NO);
        x.load(0, 7);
        x.seen(0, 1);
        x.keep();
        put(x, "b5,0,1,2,0;b6,0,1,3,0;z");
        due(5, "with a fault", x.lay(), NO);
        due(5, "boats stay", x.count(0), 4);
        due(5, "loads stay", x.boat(0, 3), 7);
        due(5, "seen stays", x.count(2), 1);
        due(5, "undone stays", x.count(3), 1);
        due(5, "kept stays", x.count(4), 1);
        due(5, "fall by the old line", x.fall(0, 2, 0), 3);
        x.wipe();
        x.later(0, 9);
        put(x, "b5,0,1,2,0;b6,1,1,3,0;");
        due(5, "lay()", x.lay(), 2);
        due(5, "text stays", x.count(5), 22);
        due(5, "none narrow", x.count(1), 0);
        due(5, "nothing seen", x.count(2), 0);
        due(5, "nothing undone", x.count(3), 0);
        due(5, "undo()", x.undo(), NO);
        due(5, "nothing kept", x.count(4), 0);
        due(5, "back()", x.back(), NO);
        due(5, "none later", x.boat(0, 5), 0);
        due(5, "load as told", x.boat(0, 3), 2);
        x.load(0, 9);
        due(5, "lay() again", x.lay(), 2);
        due(5, "load as told again", x.boat(0, 3), 2);
        // Without y, h, l: 4, 10, 2 and 4.
        due(5, "y 4 without", x.stands(0, 1), 7);
        due(5, "l 2 without", x.fall(0, 1, 0), 2);
        due(5, "r 4 without", x.fall(0, 1, 1), 4);
        due(5, "h 10 without", laid("b0,0,1,0,2;b9,1,1,0,2;").stands(0, 0), 10);
        UnderTheRope last = laid("y1;y2;h3;h20;l1,1;l5,9;b0,0,1,0,2;b9,1,1,0,2;b9,1,1,4,3;");
        due(5, "last h counts", last.stands(0, 1), 20);
        due(5, "last y counts", last.stands(0, 2), 6);
        due(5, "last l counts", last.fall(0, 1, 1), 9);
    }

    private static void boat() {
        UnderTheRope x = laid("b7,0,1,2,3;b60,1,3,9,1;");
        int[][] told = {{7, 0, 1, 2, 3, 0}, {60, 1, 3, 9, 1, 0}};
        for (int i = 0; i < 2; i++) {
            for (int what = 0; what < 6; what++) {
                due(6, "boat(" + i + ", " + what + ")", x.boat(i, what), told[i][what]);
            }
        }
        x.load(0, 5);
        x.later(1, 30);
        due(6, "changed load", x.boat(0, 3), 5);
        due(6, "sent later", x.boat(1, 5), 30);
        due(6, "boat(2, 0)", x.boat(2, 0), BAD);
        due(6, "boat(-1, 0)", x.boat(-1, 0), BAD);
        due(6, "boat(0, 6)", x.boat(0, 6), BAD);
        due(6, "boat(0, -1)", x.boat(0, -1), BAD);
    }

    /** Boat 0 goes up empty, boat 1 down with 5: they meet in minute 5 at 5, and boat 0 stands 2 minutes. */
    private static UnderTheRope plainMeeting() {
        return laid("b0,0,1,0,0;b10,1,1,5,0;y2;");
    }

    private static void where() {
        UnderTheRope x = plainMeeting();
        int[] minutes = {0, 1, 5, 6, 7, 8, 62, 63, 120};
        int[] up = {0, 1, 5, 5, 5, 6, 60, 60, 60};
        int[] down = {10, 9, 5, 4, 3, 2, 0, 0, 0};
        for (int k = 0; k < minutes.length; k++) {
            due(7, "where(0, 0, " + minutes[k] + ")", x.where(0, 0, minutes[k]), up[k]);
            due(7, "where(0, 1, " + minutes[k] + ")", x.where(0, 1, minutes[k]), down[k]);
        }
        due(7, "where(0, 0, 121)", x.where(0, 0, 121), BAD);
        due(7, "where(0, 0, -1)", x.where(0, 0, -1), BAD);
        due(7, "where(4, 0, 0)", x.where(4, 0, 0), BAD);
        due(7, "where(0, 2, 0)", x.where(0, 2, 0), BAD);
        due(7, "to the end at most", laid("b59,0,3,0,0;").where(0, 0, 1), 60);
        due(7, "to 0 at most", laid("b2,1,3,0,0;").where(0, 0, 1), 0);
    }

    private static void there() {
        UnderTheRope x = plainMeeting();
        due(8, "there(0, 0)", x.there(0, 0), 62);
        due(8, "there(0, 1)", x.there(0, 1), 10);
        UnderTheRope ends = laid("b60,0,1,0,0;b0,1,1,0,0;b0,0,1,0,0;");
        ends.later(0, 30);
        due(8, "begins there", ends.there(0, 0), 0);
        due(8, "begins there, down", ends.there(0, 1), 0);
        due(8, "the whole way", ends.there(0, 2), 60);
        // Held for 30 and 3 twice: 60 cells and 66 minutes are too many; without the 3 they are just 120.
        due(8, "not in 120", laid("h30;n0,60;b0,0,1,0,2;b60,1,1,0,2;b60,1,1,0,2;").there(0, 0), NONE);
        due(8, "in 93", laid("h30;n0,60;b0,0,1,0,2;b60,1,1,0,2;").there(0, 0), 93);
        UnderTheRope edge = laid("h30;b0,0,1,0,2;b60,1,1,0,2;b60,1,1,0,2;");
        due(8, "in 120", edge.there(0, 0), 120);
        edge.later(0, 1);
        due(8, "a minute too late", edge.there(0, 0), NONE);
        due(8, "there(0, 3)", edge.there(0, 3), BAD);
        due(8, "there(-1, 0)", edge.there(-1, 0), BAD);
    }

    private static void stands() {
        UnderTheRope x = plainMeeting();
        due(9, "stands(0, 0)", x.stands(0, 0), 2);
        due(9, "stands(0, 1)", x.stands(0, 1), 0);
        due(9, "stands(0, -1)", x.stands(0, -1), 2);
        due(9, "stands(0, -2)", x.stands(0, -2), BAD);
        due(9, "stands(0, 2)", x.stands(0, 2), BAD);
        due(9, "stands(4, -1)", x.stands(4, -1), BAD);
        x.later(1, 20);
        due(9, "later is no standing by meetings", x.stands(0, -1), 2);
        // At the end in the minute of the meeting: it is there, and its minutes count.
        UnderTheRope end = laid("b58,0,2,0,0;b60,1,1,3,0;");
        due(9, "at its end", end.stands(0, 0), 4);
        due(8, "at its end", end.there(0, 0), 1);
        due(27, "at its end", end.starts(0, 0), 1);
        // Narrow at the yielder's cell, both edges of it; not at the other's alone.
        due(9, "narrow, all", laid("b0,0,1,0,0;b10,1,1,5,0;n5,5;").stands(0, -1), 10);
        due(9, "narrow, the other", laid("b0,0,1,0,0;b10,1,1,5,0;n5,5;").stands(0, 1), 3);
        due(9, "yielder at 6, other at 5: narrow 5", laid("b0,0,1,0,0;b11,1,1,5,0;n5,5;").stands(0, -1), 4);
        due(9, "yielder at 6, other at 5: narrow 6", laid("b0,0,1,0,0;b11,1,1,5,0;n6,9;").stands(0, -1), 10);
        due(9, "narrow up to 6", laid("b0,0,1,0,0;b11,1,1,5,0;n3,6;").stands(0, -1), 10);
        due(9, "narrow twice is narrow", laid("b0,0,1,0,0;b10,1,1,5,0;n5,5;n4,6;n5,6;").stands(0, -1), 10);
        due(9, "held, one in narrow", laid("b0,0,1,0,2;b11,1,1,5,2;n5,5;").stands(0, -1), 26);
        due(9, "held, the other in narrow", laid("b0,0,1,0,2;b11,1,1,5,2;n6,6;").stands(0, -1), 26);
        due(9, "held, none in narrow", laid("b0,0,1,0,2;b11,1,1,5,2;n7,60;n0,4;").stands(0, -1), 20);
        due(9, "beyond 120", laid("b0,0,1,9,3;b60,1,1,0,2;b60,1,1,0,2;b60,1,1,0,2;y9;n0,60;").stands(0, 0), 63);
    }

    private static void yields() {
        UnderTheRope x = plainMeeting();
        due(10, "yields(0, 0)", x.yields(0, 0), 1);
        due(10, "yields(0, 1)", x.yields(0, 1), 0);
        due(10, "yields(1, 0)", x.yields(1, 0), 1);
        due(10, "yields(0, -1)", x.yields(0, -1), BAD);
        due(10, "yields(9, 0)", x.yields(9, 0), BAD);
        due(10, "held yield not", laid("b0,0,1,0,2;b10,1,1,0,2;").yields(0, 0), 0);
        due(10, "three times", laid("b0,0,1,0,0;b10,1,1,5,0;b20,1,1,5,0;b30,1,1,5,0;").yields(0, 0), 3);
    }

    private static void meetings() {
        UnderTheRope x = laid("b0,0,1,0,0;b11,1,1,5,0;b11,1,1,0,0;b0,0,1,7,0;y2;");
        due(11, "meetings(0)", x.meetings(0), 4);
        int[][] told = {{6, 1, 0, 6}, {6, 2, 2, 6}, {6, 11, 1, 6}, {6, 19, 2, 6}};
        for (int k = 0; k < 4; k++) {
            for (int what = 0; what < 4; what++) {
                due(12, "meeting(0, " + k + ", " + what + ")", x.meeting(0, k, what), told[k][what]);
            }
        }
        due(12, "meeting(0, 4, 0)", x.meeting(0, 4, 0), BAD);
        due(12, "meeting(0, -1, 0)", x.meeting(0, -1, 0), BAD);
        due(12, "meeting(0, 0, 4)", x.meeting(0, 0, 4), BAD);
        due(12, "meeting(0, 0, -1)", x.meeting(0, 0, -1), BAD);
        due(12, "meeting(4, 0, 0)", x.meeting(4, 0, 0), BAD);
        due(11, "meetings(4)", x.meetings(4), BAD);
        due(11, "meetings(-1)", x.meetings(-1), BAD);
        due(12, "held", laid("b0,0,1,0,2;b10,1,1,0,2;").meeting(0, 0, 2), NONE);
        due(12, "where, if the lower number goes down", laid("b11,1,1,5,0;b0,0,1,0,0;").meeting(0, 0, 3), 6);
        due(11, "one way", laid("b0,0,3,0,0;b10,0,1,0,0;").meetings(0), 0);
        due(11, "apart", laid("b30,0,3,0,0;b29,1,1,0,0;").meetings(0), 0);
        due(11, "at one cell from the beginning", laid("b30,0,1,0,0;b30,1,1,0,0;").meetings(0), 0);
        due(11, "who begins there", laid("b60,0,1,0,0;b60,1,1,0,0;b0,1,1,0,0;b0,0,1,0,0;").meetings(0), 1);
        // One stands (sent later) and the other one comes up to it.
        UnderTheRope late = laid("b0,0,1,0,0;b10,1,1,5,0;");
        late.later(1, 30);
        due(12, "meets one that waits", late.meeting(0, 0, 0), 10);
        due(12, "where it waits", late.meeting(0, 0, 3), 10);
    }

    private static void kinds() {
        // By kind, whatever the rule: rows of two kinds (up, down), and who yields. Loads 1, paces 1 for both.
        int[][] told = {{2, 2, NONE}, {2, 0, 1}, {2, 1, 1}, {2, 3, 1}, {0, 2, 0}, {1, 2, 0}, {3, 2, 0},
            {3, 0, 0}, {3, 1, 0}, {0, 3, 1}, {1, 3, 1}, {3, 3, 1}, {0, 0, 1}, {1, 1, 1}, {0, 1, 0}, {1, 0, 1}};
        for (int[] row : told) {
            UnderTheRope x = laid("b0,0,1,1," + row[0] + ";b10,1,1,1," + row[1] + ";");
            for (int rule = 0; rule < 4; rule++) {
                String call = "who(" + rule + ", 0, 1) of kinds " + row[0] + ", " + row[1];
                due(16, call, x.who(rule, 0, 1), row[2]);
                due(16, call + ", turned", x.who(rule, 1, 0), row[2]);
                due(12, call + ", as they meet", x.meeting(rule, 0, 2), row[2]);
            }
        }
    }

    private static void ruleOfLight() {
        // Up: mail, slow, heavy. Down: plain, fast, light.
        UnderTheRope x = laid("b0,0,1,5,1;b10,1,3,2,0;");
        int[] told = {1, 1, 0, 1};
        for (int rule = 0; rule < 4; rule++) {
            due(16, "who by " + rule, x.who(rule, 0, 1), told[rule]);
        }
        // Up: plain, fast, light. Down: mail, slow, heavy.
        UnderTheRope y = laid("b0,0,3,2,0;b10,1,1,5,1;");
        int[] other = {0, 0, 1, 0};
        for (int rule = 0; rule < 4; rule++) {
            due(16, "who by " + rule, y.who(rule, 0, 1), other[rule]);
        }
        // Mail is ahead of empty; light is not.
        UnderTheRope z = laid("b0,0,1,0,1;b10,1,1,5,0;");
        int[] third = {1, 0, 1, 0};
        for (int rule = 0; rule < 4; rule++) {
            due(16, "who by " + rule, z.who(rule, 0, 1), third[rule]);
        }
        due(16, "polite ones by light", laid("b0,0,1,1,3;b10,1,1,5,3;").who(1, 0, 1), 0);
        due(16, "polite ones by slow", laid("b0,0,1,1,3;b10,1,2,5,3;").who(2, 1, 0), 0);
        due(16, "both empty: down", laid("b0,0,1,0,0;b10,1,1,0,0;").who(0, 0, 1), 1);
        due(16, "empty up to laden down", laid("b0,0,1,0,0;b10,1,1,1,0;").who(0, 0, 1), 0);
        due(16, "less, but not empty: down", laid("b0,0,1,1,0;b10,1,1,9,0;").who(0, 0, 1), 1);
    }

    private static void load() {
        UnderTheRope x = new UnderTheRope();
        due(13, "load(0, 9)", x.load(0, 9), 3);
        due(13, "load(0, 0)", x.load(0, 0), 9);
        due(13, "load(0, 0) again", x.load(0, 0), 0);
        due(13, "load(0, 10)", x.load(0, 10), BAD);
        due(13, "load(0, -1)", x.load(0, -1), BAD);
        due(13, "load(4, 0)", x.load(4, 0), BAD);
        due(13, "load(-1, 0)", x.load(-1, 0), BAD);
        due(13, "boat(0, 3)", x.boat(0, 3), 0);
        due(13, "the same load counts for undo, bad ones do not", x.count(3), 3);
    }

    private static void later() {
        UnderTheRope x = new UnderTheRope();
        due(14, "later(0, 30)", x.later(0, 30), 0);
        due(14, "later(0, 5)", x.later(0, 5), 30);
        due(14, "in place of what it was", x.boat(0, 5), 5);
        due(14, "where(0, 0, 5)", x.where(0, 0, 5), 0);
        due(14, "where(0, 0, 6)", x.where(0, 0, 6), 2);
        due(14, "later(0, 31)", x.later(0, 31), BAD);
        due(14, "later(0, -1)", x.later(0, -1), BAD);
        due(14, "later(4, 0)", x.later(4, 0), BAD);
        due(14, "later(0, 0)", x.later(0, 0), 5);
        due(14, "count(3)", x.count(3), 3);
    }

    private static void undo() {
        UnderTheRope x = new UnderTheRope();
        due(15, "undo() of nothing", x.undo(), NO);
        x.load(0, 8);
        x.later(0, 7);
        x.load(0, 8);
        due(15, "undo() of no change", x.undo(), 2);
        due(15, "load stays", x.boat(0, 3), 8);
        due(15, "undo() of later", x.undo(), 1);
        due(15, "later", x.boat(0, 5), 0);
        due(15, "undo() of load", x.undo(), 0);
        due(15, "load", x.boat(0, 3), 3);
        due(15, "undo() of nothing more", x.undo(), NO);
        for (int w = 0; w < 10; w++) {
            x.load(1, w);
        }
        due(15, "eight can be", x.count(3), 8);
        for (int left = 7; left >= 0; left--) {
            due(15, "undo()", x.undo(), left);
            due(15, "load by then", x.boat(1, 3), left + 1);
        }
        due(15, "undo() of a ninth", x.undo(), NO);
        due(15, "load of then", x.boat(1, 3), 1);
    }

    private static void who() {
        UnderTheRope x = new UnderTheRope();
        due(16, "who(0, 0, 3)", x.who(0, 0, 3), NO);
        due(16, "who(0, 2, 1)", x.who(0, 2, 1), NO);
        due(16, "who(4, 0, 3)", x.who(4, 0, 3), BAD);
        due(16, "who(-1, 0, 1)", x.who(-1, 0, 1), BAD);
        due(16, "who(0, 0, 0)", x.who(0, 0, 0), BAD);
        due(16, "who(0, 0, 4)", x.who(0, 0, 4), BAD);
        due(16, "who(0, -1, 0)", x.who(0, -1, 0), BAD);
        due(16, "who(0, 0, 1)", x.who(0, 0, 1), 1);
        x.load(1, 1);
        x.load(0, 0);
        due(16, "who(0, 0, 1) with other loads", x.who(0, 0, 1), 0);
    }

    private static void bestAndCustom() {
        // Custom: the one that goes down with 9 stands 13; by light the other one stands 5.
        UnderTheRope x = laid("b0,0,2,1,0;b10,1,1,9,0;");
        due(17, "best(0)", x.best(0), 1);
        due(17, "best(1)", x.best(1), 5);
        due(18, "custom()", x.custom(), 8);
        // By light and by slow the mail stands 5, by custom the other one 13.
        UnderTheRope slow = laid("b0,0,2,9,0;b10,1,1,1,1;");
        due(17, "light is the first", slow.best(0), 1);
        due(18, "custom()", slow.custom(), 8);
        UnderTheRope alone = laid("b0,0,1,9,0;");
        due(17, "best(0) of one", alone.best(0), 0);
        due(17, "best(1) of one", alone.best(1), 0);
        due(18, "custom() of one", alone.custom(), 0);
        due(17, "best(2)", x.best(2), BAD);
        due(17, "best(-1)", x.best(-1), BAD);
    }

    private static void send() {
        // In minute 5 they meet at 5, which is narrow. Boat 1 a minute later: boat 0 is at 6 then, in minute 6.
        // Boat 0 later by 1, 2, 3, 4 minutes: it is at 5, 4, 4, 3 when they meet.
        UnderTheRope x = laid("b0,0,1,0,0;b10,1,1,5,0;n4,5;y2;");
        due(9, "stands(0, -1)", x.stands(0, -1), 8);
        due(19, "send(0, 1, 0)", x.send(0, 1, 0), 1);
        due(19, "send(0, 1, 1)", x.send(0, 1, 1), 2);
        due(19, "send(0, 0, 0)", x.send(0, 0, 0), 4);
        due(19, "send(0, 0, 1)", x.send(0, 0, 1), 2);
        x.later(1, 20);
        due(19, "in place of what it is", x.send(0, 1, 0), 1);
        due(19, "nothing changes", x.boat(1, 5), 20);
        due(19, "nothing more to undo", x.count(3), 1);
        due(19, "send(0, 2, 0)", x.send(0, 2, 0), BAD);
        due(19, "send(0, -1, 0)", x.send(0, -1, 0), BAD);
        due(19, "send(4, 0, 0)", x.send(4, 0, 0), BAD);
        due(19, "send(0, 0, 2)", x.send(0, 0, 2), BAD);
        due(19, "send(0, 0, -1)", x.send(0, 0, -1), BAD);
        UnderTheRope wide = laid("b0,0,1,0,0;b60,1,1,5,0;n15,60;");
        due(19, "narrow by all minutes", wide.send(0, 0, 0), 0);
        due(19, "narrow by all minutes: as much", wide.send(0, 0, 1), 10);
        // Sent 30 later, the one that goes up is at 15 when they meet: 29 later at 16.
        UnderTheRope far = laid("b0,0,1,0,0;b60,1,1,5,0;n16,60;");
        due(19, "thirty", far.send(0, 0, 0), 30);
        due(19, "thirty: as much", far.send(0, 0, 1), 4);
    }

    private static void swap() {
        // By custom the one that goes down stands 4 and its load: better the light one.
        UnderTheRope x = laid("b0,0,1,2,0;b10,1,1,9,0;b0,0,1,2,0;");
        due(20, "swap(0, 0)", x.swap(0, 0), 1);
        due(20, "swap(0, 1)", x.swap(0, 1), 12);
        due(20, "nothing changes", x.boat(0, 3), 2);
        due(20, "nothing to undo", x.count(3), 0);
        due(20, "swap(1, 0)", x.swap(1, 0), NONE);
        due(20, "swap(1, 1)", x.swap(1, 1), NONE);
        due(20, "swap(0, 2)", x.swap(0, 2), BAD);
        due(20, "swap(0, -1)", x.swap(0, -1), BAD);
        due(20, "swap(4, 0)", x.swap(4, 0), BAD);
        due(20, "swap(1, 2)", x.swap(1, 2), BAD);
        due(20, "of one", laid("b0,0,1,2,0;").swap(0, 0), NONE);
        // Boats of one way may change, too: only the one that meets has to be light.
        due(20, "of one way", laid("b0,0,1,7,0;b60,0,1,1,0;b10,1,1,9,2;").swap(0, 0), 1);
    }

    private static void fall() {
        UnderTheRope x = laid("b0,0,1,2,0;b10,1,1,9,0;b10,1,1,5,0;l2,4;");
        due(21, "to load 2", x.fall(1, 0, 0), 2);
        due(21, "at most", x.fall(1, 0, 1), 4);
        due(21, "to load 9", x.fall(0, 1, 0), NONE);
        due(21, "to load 9, at most", x.fall(0, 1, 1), NONE);
        due(21, "to load 5, one way", x.fall(1, 2, 0), 3);
        x.load(1, 7);
        due(21, "just", x.fall(0, 1, 0), 4);
        x.load(1, 8);
        due(21, "just not", x.fall(0, 1, 0), NONE);
        due(21, "fall(0, 0, 0)", x.fall(0, 0, 0), BAD);
        due(21, "fall(0, 3, 0)", x.fall(0, 3, 0), BAD);
        due(21, "fall(-1, 0, 0)", x.fall(-1, 0, 0), BAD);
        due(21, "fall(0, 1, 2)", x.fall(0, 1, 2), BAD);
        due(21, "fall(0, 1, -1)", x.fall(0, 1, -1), BAD);
    }

    private static void fraction(UnderTheRope x, int[] call, int above, int below) {
        String told = "caught(" + call[0] + ", " + call[1] + ", " + call[2] + ", ";
        due(22, told + "0)", x.caught(call[0], call[1], call[2], 0), above);
        due(22, told + "1)", x.caught(call[0], call[1], call[2], 1), below);
    }

    private static void caught() {
        UnderTheRope x = laid("b0,0,1,2,0;b10,1,1,9,0;b10,1,1,0,0;l2,4;");
        fraction(x, new int[] {0, 0, 5}, 1, 1);
        fraction(x, new int[] {0, 1, 10}, 1, 1);
        fraction(x, new int[] {0, 2, 10}, 0, 1);
        fraction(x, new int[] {0, 2, 0}, 1, 1);
        fraction(x, new int[] {0, 2, 5}, 3, 4);
        fraction(x, new int[] {0, 3, 5}, 1, 2);
        // 0.7^6 and 6 times 0.3 and 0.7^5: 117649 and 302526 of a million.
        fraction(x, new int[] {0, 6, 3}, 16807, 40000);
        fraction(x, new int[] {2, 6, 3}, 117649, 1000000);
        // Five of six: all but 6 times 0.9^5 and 0.1, and 0.9^6.
        fraction(x, new int[] {1, 6, 9}, 22853, 200000);
        fraction(x, new int[] {1, 4, 9}, 1, 1);
        due(22, "caught(0, 7, 5, 0)", x.caught(0, 7, 5, 0), BAD);
        due(22, "caught(0, -1, 5, 0)", x.caught(0, -1, 5, 0), BAD);
        due(22, "caught(0, 0, 11, 0)", x.caught(0, 0, 11, 0), BAD);
        due(22, "caught(0, 0, -1, 0)", x.caught(0, 0, -1, 0), BAD);
        due(22, "caught(0, 0, 5, 2)", x.caught(0, 0, 5, 2), BAD);
        due(22, "caught(0, 0, 5, -1)", x.caught(0, 0, 5, -1), BAD);
        due(22, "caught(3, 0, 5, 0)", x.caught(3, 0, 5, 0), BAD);
    }

    private static void rests() {
        // Yielding takes 4, 13, 10 minutes, holding out 10.
        UnderTheRope x = laid("b0,0,1,0,0;b10,1,1,9,0;b10,1,1,6,0;y4;h10;");
        due(23, "4 against 13", x.rests(0, 1, 0), 1);
        due(23, "4 against 13: the first", x.rests(0, 1, 1), 1);
        due(23, "13 against 4", x.rests(1, 0, 0), 1);
        due(23, "13 against 4: the first", x.rests(1, 0, 1), 2);
        due(23, "4 against 10", x.rests(0, 2, 0), 2);
        due(23, "10 against 13, one way", x.rests(2, 1, 0), 2);
        due(23, "10 against 13: the first", x.rests(2, 1, 1), 1);
        due(23, "13 against 10: the first", x.rests(1, 2, 1), 2);
        x.load(2, 9);
        due(23, "13 against 13", x.rests(1, 2, 0), 1);
        due(23, "13 against 13: the first", x.rests(1, 2, 1), 3);
        x.load(1, 6);
        x.load(2, 6);
        due(23, "10 against 10", x.rests(1, 2, 0), 3);
        due(23, "rests(0, 0, 0)", x.rests(0, 0, 0), BAD);
        due(23, "rests(0, 3, 0)", x.rests(0, 3, 0), BAD);
        due(23, "rests(-1, 0, 0)", x.rests(-1, 0, 0), BAD);
        due(23, "rests(0, 1, 2)", x.rests(0, 1, 2), BAD);
        due(23, "rests(0, 1, -1)", x.rests(0, 1, -1), BAD);
    }

    private static void seen() {
        UnderTheRope x = new UnderTheRope();
        due(25, "forget() of nothing", x.forget(), 0);
        for (int k = 1; k <= 8; k++) {
            due(24, "seen(1, 0)", x.seen(1, 0), k);
        }
        due(24, "a ninth", x.seen(1, 0), FULL);
        due(24, "a ninth of one way", x.seen(0, 3), NO);
        due(24, "a ninth of one", x.seen(0, 0), BAD);
        due(24, "seen(0, 4)", x.seen(0, 4), BAD);
        due(24, "seen(-1, 0)", x.seen(-1, 0), BAD);
        due(24, "count(2)", x.count(2), 8);
        due(25, "forget()", x.forget(), 8);
        due(25, "count(2)", x.count(2), 0);
        due(24, "seen(1, 0)", x.seen(1, 0), 1);
    }

    private static void fits() {
        UnderTheRope x = laid("b0,0,1,5,1;b10,1,3,2,0;b60,0,1,1,2;b5,1,1,1,2;");
        due(26, "nothing seen", x.fits(), 15);
        x.seen(1, 0);
        due(26, "plain, light, fast yielded", x.fits(), 11);
        x.load(1, 9);
        due(26, "loads as they are", x.fits(), 1);
        x.seen(0, 1);
        due(26, "both cannot be", x.fits(), 0);
        x.forget();
        x.seen(0, 1);
        due(26, "the other one", x.fits(), 14);
        x.seen(1, 2);
        due(26, "to one that begins there", x.fits(), 14);
        x.seen(2, 3);
        due(26, "held", x.fits(), 0);
    }

    private static void starts() {
        // The up boat with 0 meets three: at 5, and, while it stands for 4 minutes, one more; the last one behind that.
        UnderTheRope x = laid("b0,0,1,0,0;b10,1,1,5,0;b12,1,1,5,0;b30,1,1,5,0;b60,0,1,0,0;");
        due(11, "meetings(0)", x.meetings(0), 3);
        due(27, "starts(0, 0)", x.starts(0, 0), 3);
        due(27, "starts(0, 1)", x.starts(0, 1), 1);
        due(27, "begins there", x.starts(0, 4), 0);
        // The last minute of standing is over when they meet: it starts again.
        UnderTheRope just = laid("b0,0,1,0,0;b10,1,1,5,0;b14,1,1,5,0;");
        due(12, "meets in minute 5", just.meeting(0, 0, 0), 5);
        due(12, "meets in minute 9", just.meeting(0, 1, 0), 9);
        due(27, "no minutes left", just.starts(0, 0), 3);
        UnderTheRope waits = laid("b0,0,1,0,0;b10,1,1,5,3;");
        waits.later(1, 30);
        due(27, "made to stand while it waits", waits.starts(0, 1), 1);
        due(9, "made to stand while it waits", waits.stands(0, 1), 9);
        due(8, "made to stand while it waits", waits.there(0, 1), 49);
        // By the narrow place the other one stands, and starts, too.
        due(27, "the other one", laid("b0,0,1,0,0;b10,1,1,5,0;n5,5;").starts(0, 1), 2);
        due(27, "starts(0, 5)", x.starts(0, 5), BAD);
        due(27, "starts(0, -1)", x.starts(0, -1), BAD);
        due(27, "starts(4, 0)", x.starts(4, 0), BAD);
    }

    private static void bears() {
        UnderTheRope x = laid("b0,0,1,0,0;b10,1,1,5,0;b12,1,1,5,0;b30,1,1,5,0;b60,0,1,0,0;");
        int[] told = {16, 30, 30, 31, 31, 31, 31, 31, 31, 31};
        for (int n = 0; n < 10; n++) {
            due(28, "bears(0, " + n + ")", x.bears(0, n), told[n]);
        }
        due(28, "bears(0, 10)", x.bears(0, 10), BAD);
        due(28, "bears(0, -1)", x.bears(0, -1), BAD);
        due(28, "bears(4, 0)", x.bears(4, 0), BAD);
    }

    private static void day() {
        // z 0: DRAW is 1 for boat 0 (later 1, load 0), 6152 times 6152 modulo 65521 = 41487 for boat 1 (later 9, load 8).
        UnderTheRope x = laid("b0,0,1,9,0;b10,1,1,9,0;y2;");
        due(29, "day(0, 0, 0)", x.day(0, 0, 0), 2);
        due(29, "day(0, 0, 1)", x.day(0, 0, 1), 1);
        due(29, "day(3, 9999, 1)", x.day(3, 9999, 1), 1);
        // z 1: boat 0 is later by 18 with a load of 6, boat 1 by 5 with 5: they meet in minute 15, at 0.
        due(29, "boat 0 yields", laid("b0,0,1,0,3;b10,1,1,0,0;").day(0, 1, 0), 10);
        due(29, "boat 1 yields", laid("b0,0,1,0,0;b10,1,1,0,3;").day(0, 1, 0), 9);
        due(29, "at 0", laid("b0,0,1,0,3;b10,1,1,0,0;n0,0;").day(0, 1, 0), 16);
        due(29, "not at 1 or above", laid("b0,0,1,0,3;b10,1,1,0,0;n1,60;").day(0, 1, 0), 10);
        // z 9999: boat 0 is later by 29 with a load of 1, boat 1 by 0 with 9.
        due(29, "boat 0 yields on the last day", laid("b0,0,1,0,3;b10,1,1,0,0;").day(0, 9999, 0), 5);
        due(29, "boat 1 yields on the last day", laid("b0,0,1,0,0;b10,1,1,0,3;").day(0, 9999, 0), 13);
        due(29, "nothing changes", x.boat(0, 3), 9);
        due(29, "nothing is later", x.boat(1, 5), 0);
        due(29, "nothing to undo", x.count(3), 0);
        due(29, "day(0, 10000, 0)", x.day(0, 10000, 0), BAD);
        due(29, "day(0, -1, 0)", x.day(0, -1, 0), BAD);
        due(29, "day(0, 0, 2)", x.day(0, 0, 2), BAD);
        due(29, "day(0, 0, -1)", x.day(0, 0, -1), BAD);
        due(29, "day(4, 0, 0)", x.day(4, 0, 0), BAD);
        due(29, "day(-1, 0, 0)", x.day(-1, 0, 0), BAD);
    }

    private static void keepAndBack() {
        UnderTheRope x = new UnderTheRope();
        due(31, "back() of nothing", x.back(), NO);
        x.load(0, 8);
        due(30, "keep()", x.keep(), 1);
        due(30, "can be undone still", x.count(3), 1);
        x.later(1, 12);
        x.load(0, 1);
        due(30, "keep()", x.keep(), 2);
        due(30, "keep() of a third", x.keep(), FULL);
        x.load(0, 5);
        x.later(1, 3);
        x.seen(1, 0);
        due(31, "back()", x.back(), 1);
        due(31, "load", x.boat(0, 3), 1);
        due(31, "later", x.boat(1, 5), 12);
        due(31, "nothing is undone then", x.undo(), NO);
        due(31, "seen stays", x.count(2), 1);
        x.load(0, 4);
        due(31, "back()", x.back(), 0);
        due(31, "load", x.boat(0, 3), 8);
        due(31, "later", x.boat(1, 5), 0);
        x.load(0, 4);
        due(31, "back() of nothing more", x.back(), NO);
        due(31, "can be undone still", x.count(3), 1);
        due(30, "keep() again", x.keep(), 1);
    }

    private static void count() {
        UnderTheRope x = laid("n1,2;n3,4;b0,0,1,0,0;b10,1,1,0,0;b20,1,1,0,0;");
        x.seen(0, 1);
        x.load(0, 1);
        x.later(0, 1);
        x.keep();
        int[] told = {3, 2, 1, 2, 1, 45};
        for (int what = 0; what < 6; what++) {
            due(32, "count(" + what + ")", x.count(what), told[what]);
        }
        due(32, "count(6)", x.count(6), BAD);
        due(32, "count(-1)", x.count(-1), BAD);
    }

    private static void badRulesAndBoats() {
        UnderTheRope x = new UnderTheRope();
        int[] far = {Integer.MIN_VALUE, Integer.MAX_VALUE, -2, 6, 100};
        for (int n : far) {
            due(6, "boat(" + n + ", 0)", x.boat(n, 0), BAD);
            due(7, "where(" + n + ", 0, 0)", x.where(n, 0, 0), BAD);
            due(7, "where(0, " + n + ", 0)", x.where(0, n, 0), BAD);
            due(8, "there(0, " + n + ")", x.there(0, n), BAD);
            due(9, "stands(0, " + n + ")", x.stands(0, n), BAD);
            due(12, "meeting(0, " + n + ", 0)", x.meeting(0, n, 0), BAD);
            due(13, "load(" + n + ", 0)", x.load(n, 0), BAD);
            due(14, "later(" + n + ", 0)", x.later(n, 0), BAD);
            due(22, "caught(" + n + ", 0, 0, 0)", x.caught(n, 0, 0, 0), BAD);
            due(24, "seen(0, " + n + ")", x.seen(0, n), BAD);
            due(32, "count(" + n + ")", x.count(n), BAD);
        }
        due(32, "nothing changed", x.count(3), 0);
    }
}
