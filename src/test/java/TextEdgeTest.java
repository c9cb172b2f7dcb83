/** The edges of part 1 of the document and of promises 1 to 6: texts, faults, laying, boats. */
public final class TextEdgeTest {
    private static final int BAD = Checks.BAD, NO = Checks.NO, FULL = Checks.FULL, NONE = Checks.NONE;
    private static final int LEAST = Checks.LEAST, MOST = Checks.MOST;
    private static final String BOAT = "b0,0,1,0,0;";

    public static void main(String[] args) {
        atFirst();
        emptyAtFirst();
        letters();
        mostLetters();
        wipe();
        figures();
        numbersOfBoats();
        numbersOfNarrows();
        numbersOfMinutes();
        numbersOfLines();
        itemLetters();
        marks();
        cutOff();
        placeOfFault();
        firstOfFaults();
        mostBoats();
        mostNarrows();
        aBoatAtLeast();
        layForgets();
        layKeepsText();
        lastCounts();
        without();
        notOfTheCutBefore();
        boat();
        Checks.end("TextEdgeTest");
    }

    private static void says(int promise, String words) {
        Checks.says(promise, words);
    }

    private static void due(String call, int got, int want) {
        Checks.due(call, got, want);
    }

    private static UnderTheRope laid(String text) {
        return Checks.laid(text);
    }

    private static int faultOf(String text) {
        return Checks.faultOf(text);
    }

    private static void atFirst() {
        says(1, "at first b0,0,2,3,0;b60,1,2,0,0;b50,1,1,5,1;b10,0,1,9,2;n28,32;y4;h10;l2,4;");
        for (int rule = 0; rule < 4; rule++) {
            for (int i = 0; i < 4; i++) {
                UnderTheRope fresh = new UnderTheRope();
                UnderTheRope told = laid(Checks.FIRST);
                for (int minute = 0; minute <= 120; minute++) {
                    String call = "where(" + rule + ", " + i + ", " + minute + ")";
                    due(call, fresh.where(rule, i, minute), told.where(rule, i, minute));
                }
            }
        }
        UnderTheRope fresh = new UnderTheRope();
        UnderTheRope told = laid(Checks.FIRST);
        for (int i = 0; i < 4; i++) {
            for (int what = 0; what < 6; what++) {
                due("boat(" + i + ", " + what + ")", fresh.boat(i, what), told.boat(i, what));
            }
            for (int j = 0; j < 4; j++) {
                due("fall", fresh.fall(i, j, 0), told.fall(i, j, 0));
                due("fall", fresh.fall(i, j, 1), told.fall(i, j, 1));
                due("rests", fresh.rests(i, j, 0), told.rests(i, j, 0));
            }
        }
        int[][] boats = {{0, 0, 2, 3, 0, 0}, {60, 1, 2, 0, 0, 0}, {50, 1, 1, 5, 1, 0}, {10, 0, 1, 9, 2, 0}};
        for (int i = 0; i < 4; i++) {
            for (int what = 0; what < 6; what++) {
                due("boat(" + i + ", " + what + ")", fresh.boat(i, what), boats[i][what]);
            }
        }
        due("four boats", fresh.count(0), 4);
        due("one narrow place", fresh.count(1), 1);
    }

    private static void emptyAtFirst() {
        says(1, "THE TEXT is empty");
        due("count(5)", new UnderTheRope().count(5), 0);
        due("wipe()", new UnderTheRope().wipe(), 0);
        due("fault()", new UnderTheRope().fault(), NONE);
        due("lay()", new UnderTheRope().lay(), NO);
        due("the first letter", new UnderTheRope().write('b'), 1);
        due("nothing seen", new UnderTheRope().count(2), 0);
        due("nothing to undo", new UnderTheRope().undo(), NO);
        due("nothing kept", new UnderTheRope().back(), NO);
        UnderTheRope one = Checks.written("y1;");
        due("objects share nothing", new UnderTheRope().count(5), 0);
        due("objects share nothing", one.count(5), 3);
    }

    private static void letters() {
        says(2, "A letter (32 to 126, as in ASCII)");
        for (int letter = -300; letter <= 400; letter++) {
            int want = letter >= 32 && letter <= 126 ? 1 : BAD;
            UnderTheRope x = new UnderTheRope();
            due("write(" + letter + ")", x.write(letter), want);
            due("count(5) behind it", x.count(5), Math.max(want, 0));
        }
        int[] far = {LEAST, LEAST + 98, MOST, MOST - 1, 256 + 98, 65536 + 98, -98, 98 - 256};
        for (int letter : far) {
            due("write(" + letter + ")", new UnderTheRope().write(letter), BAD);
        }
        says(2, "comes behind THE TEXT");
        UnderTheRope x = new UnderTheRope();
        String text = "h30;" + BOAT;
        for (int k = 0; k < text.length(); k++) {
            due("write: how long it is", x.write(text.charAt(k)), k + 1);
        }
        due("in this order", x.lay(), 1);
    }

    private static void mostLetters() {
        says(2, "200 at most; FULL");
        UnderTheRope x = new UnderTheRope();
        String text = BOAT + "y1;".repeat(63);
        due("so long is the text", text.length(), 200);
        for (int k = 0; k < 200; k++) {
            due("write", x.write(text.charAt(k)), k + 1);
        }
        due("a letter more", x.write('y'), FULL);
        due("the lowest letter more", x.write(32), FULL);
        due("the highest letter more", x.write(126), FULL);
        due("count(5)", x.count(5), 200);
        due("no fault in a full text", x.fault(), NONE);
        due("a full text is laid", x.lay(), 1);
        due("and stays full", x.write('y'), FULL);
        says(2, "BAD ahead of FULL");
        due("write(31)", x.write(31), BAD);
        due("write(127)", x.write(127), BAD);
        due("the least int", x.write(LEAST), BAD);
        due("the most", x.write(MOST), BAD);
    }

    private static void wipe() {
        says(3, "THE TEXT is empty: how long it was");
        UnderTheRope x = new UnderTheRope();
        due("of an empty one", x.wipe(), 0);
        x.write('y');
        due("of one letter", x.wipe(), 1);
        due("of nothing again", x.wipe(), 0);
        Checks.put(x, "z".repeat(200));
        due("of a full one", x.wipe(), 200);
        due("count(5)", x.count(5), 0);
        due("fault()", x.fault(), NONE);
        due("lay()", x.lay(), NO);
        due("letters come again", x.write('y'), 1);
        Checks.put(x, "1;");
        due("nothing of the old text is left", x.fault(), NONE);
        due("the cut stays", x.count(0), 4);
    }

    private static void figures() {
        says(4, "numbers (one or two figures)");
        due("one", faultOf("y1;"), NONE);
        due("two", faultOf("y01;"), NONE);
        due("three", faultOf("y001;"), 0);
        due("none", faultOf("y;"), 0);
        due("three, and small", faultOf("b000,0,1,0,0;"), 0);
        due("three in the middle", faultOf("b0,0,001,0,0;"), 0);
        due("three at the end", faultOf("b0,0,1,0,000;"), 0);
        due("none in the middle", faultOf("b0,,1,0,0;"), 0);
        due("none at the end", faultOf("b0,0,1,0,;"), 0);
        due("two everywhere", faultOf("b00,00,01,00,00;n00,00;y01;h01;l01,01;"), NONE);
        due("two: what they tell", laid("b07,01,03,09,02;").boat(0, 0), 7);
        due("below 0", faultOf("y-1;"), 0);
        due("a sign ahead", faultOf("y+1;"), 0);
        due("a blank ahead", faultOf("y 1;"), 0);
        due("a blank behind", faultOf("y1 ;"), 0);
        due("a letter", faultOf("ya;"), 0);
        due("the sign below 0", faultOf("y/;"), 0);
        due("the sign above 9", faultOf("y:;"), 0);
    }

    /** A number of an item may be low to high; all that one or two figures can tell are tried. */
    private static void number(String ahead, String behind, int low, int high) {
        for (int v = 0; v <= 99; v++) {
            int want = Checks.isWithin(v, low, high) ? NONE : 0;
            due(ahead + v + behind, faultOf(ahead + v + behind), want);
            due("behind another: " + ahead + v + behind, faultOf("h9;" + ahead + v + behind), want == 0 ? 3 : NONE);
            if (v < 10) {
                due(ahead + "0" + v + behind, faultOf(ahead + "0" + v + behind), want);
            }
        }
    }

    private static void told(String ahead, String behind, int what, int low, int high) {
        for (int v = low; v <= high; v++) {
            due("boat(0, " + what + ") of " + ahead + v + behind, laid(ahead + v + behind).boat(0, what), v);
        }
    }

    private static void numbersOfBoats() {
        says(4, "a BOAT at cell X (0 to 60)");
        number("b", ",0,1,0,0;", 0, 60);
        told("b", ",0,1,0,0;", 0, 0, 60);
        says(4, "going UP (D 0; to 60) or DOWN (1; to 0)");
        number("b0,", ",1,0,0;", 0, 1);
        told("b0,", ",1,0,0;", 1, 0, 1);
        due("up: to 60", laid("b59,0,1,0,0;").there(0, 0), 1);
        due("down: to 0", laid("b1,1,1,0,0;").there(0, 0), 1);
        says(4, "by S (1 to 3) cells a minute");
        number("b0,0,", ",0,0;", 1, 3);
        told("b0,0,", ",0,0;", 2, 1, 3);
        for (int pace = 1; pace <= 3; pace++) {
            due("a minute by pace " + pace, laid("b0,0," + pace + ",0,0;").where(0, 0, 1), pace);
        }
        says(4, "with a LOAD W (0 to 9)");
        number("b0,0,1,", ",0;", 0, 9);
        told("b0,0,1,", ",0;", 3, 0, 9);
        says(4, "of KIND K (0 PLAIN, 1 MAIL, 2 STUBBORN, 3 POLITE)");
        number("b0,0,1,0,", ";", 0, 3);
        told("b0,0,1,0,", ";", 4, 0, 3);
        says(4, "five numbers");
        due("four", faultOf("b0,0,1,0;"), 0);
        due("six", faultOf("b0,0,1,0,0,0;"), 0);
        due("none", faultOf("b;"), 0);
    }

    private static void numbersOfNarrows() {
        says(4, "a NARROW place, cells A to B (0 to 60, A no more than B)");
        for (int a = 0; a <= 99; a++) {
            for (int b = 0; b <= 99; b++) {
                String item = "n" + a + "," + b + ";";
                due(item, faultOf(item), a <= b && b <= 60 ? NONE : 0);
            }
        }
        due("one number", faultOf("n5;"), 0);
        due("three numbers", faultOf("n1,2,3;"), 0);
        due("no number", faultOf("n;"), 0);
    }

    private static void numbersOfMinutes() {
        says(4, "who yields stands for Y (1 to 9) minutes");
        number("y", ";", 1, 9);
        due("two numbers", faultOf("y1,1;"), 0);
        says(4, "two that are HELD stand for H (1 to 30) minutes");
        number("h", ";", 1, 30);
        due("two numbers", faultOf("h1,1;"), 0);
    }

    private static void numbersOfLines() {
        says(4, "a line sinks L (1 to 5) feet a minute");
        number("l", ",1;", 1, 5);
        says(4, "who lets it fall more than R (1 to 9) minutes ahead drifts across");
        number("l1,", ";", 1, 9);
        due("one number", faultOf("l1;"), 0);
        due("three numbers", faultOf("l1,1,1;"), 0);
    }

    private static void itemLetters() {
        says(4, "each a letter");
        for (char letter = 32; letter <= 126; letter++) {
            due(letter + "1;", faultOf(letter + "1;"), letter == 'y' || letter == 'h' ? NONE : 0);
            due(letter + "1,1;", faultOf(letter + "1,1;"), letter == 'n' || letter == 'l' ? NONE : 0);
            due(letter + "1,1,1,1,1;", faultOf(letter + "1,1,1,1,1;"), letter == 'b' ? NONE : 0);
            due(letter + "1,1,1;", faultOf(letter + "1,1,1;"), 0);
            due(letter + "1,1,1,1;", faultOf(letter + "1,1,1,1;"), 0);
            due(letter + ";", faultOf(letter + ";"), 0);
            due(letter + " alone", faultOf("" + letter), 0);
            due(letter + " behind an item", faultOf("y1;" + letter), 3);
        }
        due("two letters", faultOf("yy1;"), 0);
    }

    private static void marks() {
        says(4, "parted by , and a ; behind the last one");
        String[] items = {"b1,1,1,1,1;", "n1,1;", "y1;", "h1;", "l1,1;"};
        for (String item : items) {
            for (int place = 1; place < item.length(); place++) {
                for (char sign = 32; sign <= 126; sign++) {
                    boolean figure = item.charAt(place) == '1';
                    if (figure ? sign >= '0' && sign <= '9' : sign == item.charAt(place)) {
                        continue;
                    }
                    String text = item.substring(0, place) + sign + item.substring(place + 1);
                    due(text, faultOf(text), 0);
                }
            }
        }
        due("a mark too early", faultOf("h1;;"), 3);
        due("a mark too early", faultOf("b1,1,1,1,1;;"), 11);
        due("nothing between", faultOf("y1;;h1;"), 3);
        due("a blank between", faultOf("y1; h1;"), 3);
    }

    private static void cutOff() {
        says(4, "a ; behind the last one");
        String[] items = {"b60,1,3,9,3;", "n10,20;", "y9;", "h30;", "l5,9;"};
        for (String item : items) {
            for (int length = 1; length < item.length(); length++) {
                String part = item.substring(0, length);
                due(part, faultOf(part), 0);
                due("y3;" + part, faultOf("y3;" + part), 3);
            }
            due(item, faultOf(item), NONE);
        }
        // 66 items of three letters and two more letters of the next one: the 200th letter is its figure.
        due("cut off by the end of a full text", faultOf("y1;".repeat(67)), 198);
        due("its ; is the 200th letter", faultOf("y1;".repeat(63) + BOAT), NONE);
        due("its ; would be the 201st letter", faultOf("y1;".repeat(62) + "h1" + "0;" + BOAT), 190);
    }

    /** Fine items of so many letters together, or null. */
    private static String chain(int length) {
        for (int fours = 0; 4 * fours <= length; fours++) {
            if ((length - 4 * fours) % 3 == 0) {
                return "h10;".repeat(fours) + "y1;".repeat((length - 4 * fours) / 3);
            }
        }
        return null;
    }

    private static void placeOfFault() {
        says(4, "the place (from 0 on) of the first letter");
        for (int place = 0; place <= 200; place++) {
            String fine = chain(place);
            if (fine == null) {
                continue;
            }
            due("no fault in " + place + " letters", faultOf(fine), NONE);
            UnderTheRope x = Checks.written(fine);
            due("a letter at " + place, x.write('x'), place < 200 ? place + 1 : FULL);
            due("fault at " + place, x.fault(), place < 200 ? place : NONE);
            due("count(5) behind fault()", x.count(5), Math.min(place + 1, 200));
            due("fault() again", x.fault(), place < 200 ? place : NONE);
        }
        due("in an empty text", faultOf(""), NONE);
    }

    private static void firstOfFaults() {
        says(4, "of the first ITEM that is not so");
        due("two", faultOf("y0;h0;"), 0);
        due("the second and the third", faultOf("y1;h0;l0,0;"), 3);
        due("a fine one between", faultOf("y1;y2;h31;y3;z"), 6);
        due("the last one", faultOf("y1;y2;y3;y4;y0;"), 12);
        due("of several the last one counts, but all have to be so", faultOf("y0;y1;"), 0);
        due("fine items behind it", faultOf("q" + BOAT), 0);
    }

    private static void mostBoats() {
        says(4, "6 at most, 0, 1, ..");
        due("six", faultOf(BOAT.repeat(6)), NONE);
        due("seven", faultOf(BOAT.repeat(7)), 66);
        due("eight", faultOf(BOAT.repeat(8)), 66);
        due("a seventh behind others", faultOf("n1,2;" + BOAT.repeat(6) + "y1;" + BOAT), 74);
        due("one that is broken is the fault itself", faultOf(BOAT.repeat(5) + "b61,0,1,0,0;" + BOAT), 55);
        due("a fault ahead of a seventh", faultOf(BOAT.repeat(6) + "y0;" + BOAT), 66);
        StringBuilder text = new StringBuilder();
        for (int i = 0; i < 6; i++) {
            text.append("b").append(10 * i).append(",0,1,").append(i).append(",0;");
        }
        UnderTheRope x = laid(text.toString());
        for (int i = 0; i < 6; i++) {
            due("boat(" + i + ", 0)", x.boat(i, 0), 10 * i);
            due("boat(" + i + ", 3)", x.boat(i, 3), i);
        }
        due("boat(6, 0)", x.boat(6, 0), BAD);
        due("boat(-1, 0)", x.boat(-1, 0), BAD);
        due("count(0)", x.count(0), 6);
        UnderTheRope seven = Checks.written(BOAT.repeat(7));
        due("seven are not laid", seven.lay(), NO);
        due("and the cut stays", seven.count(0), 4);
    }

    private static void mostNarrows() {
        says(4, "3 at most");
        due("three", faultOf("n1,2;".repeat(3)), NONE);
        due("four", faultOf("n1,2;".repeat(4)), 15);
        due("five", faultOf("n1,2;".repeat(5)), 15);
        due("four, others between", faultOf("n1,2;y1;n1,2;" + BOAT + "n1,2;h1;n0,60;"), 32);
        for (int many = 0; many <= 3; many++) {
            due("count(1)", laid(BOAT + "n1,2;".repeat(many)).count(1), many);
        }
        due("four are not laid", Checks.written(BOAT + "n1,2;".repeat(4)).lay(), NO);
    }

    private static void aBoatAtLeast() {
        says(5, "a TEXT without FAULT, of a BOAT at least (NO else)");
        due("empty", Checks.written("").lay(), NO);
        due("no boat", Checks.written("n0,60;y1;h1;l1,1;").lay(), NO);
        due("a boat with a fault", Checks.written("b61,0,1,0,0;").lay(), NO);
        due("a boat and a fault behind it", Checks.written(BOAT + "y").lay(), NO);
        due("a fault and a boat behind it", Checks.written("y" + BOAT).lay(), NO);
        due("a boat not ended", Checks.written("b0,0,1,0,0").lay(), NO);
        says(5, "LAID: how many BOATS");
        for (int many = 1; many <= 6; many++) {
            UnderTheRope x = Checks.written(BOAT.repeat(many));
            due("lay() of " + many, x.lay(), many);
            due("count(0)", x.count(0), many);
            due("the last one is told", x.boat(many - 1, 2), 1);
            due("none beyond it", x.boat(many, 2), BAD);
        }
    }

    /** All that may change is full: 8 to be undone, 8 seen, 2 kept, boats sent later. */
    private static void fill(UnderTheRope x) {
        for (int k = 0; k < 8; k++) {
            x.seen(0, 1);
        }
        x.load(0, 9);
        x.keep();
        x.keep();
        for (int k = 0; k < 8; k++) {
            x.later(k % 2, 30 - k);
        }
    }

    private static void layForgets() {
        says(5, "none sent later, nothing SEEN, UNDONE, KEPT");
        UnderTheRope x = new UnderTheRope();
        fill(x);
        due("it was full", x.count(2) + x.count(3) + x.count(4), 18);
        Checks.put(x, "b0,0,1,3,0;b60,1,1,4,0;");
        due("lay()", x.lay(), 2);
        due("boat(0, 5)", x.boat(0, 5), 0);
        due("boat(1, 5)", x.boat(1, 5), 0);
        due("boat(0, 3)", x.boat(0, 3), 3);
        due("count(2)", x.count(2), 0);
        due("forget()", x.forget(), 0);
        due("fits()", x.fits(), 15);
        due("count(3)", x.count(3), 0);
        due("undo()", x.undo(), NO);
        due("count(4)", x.count(4), 0);
        due("back()", x.back(), NO);
        fill(x);
        due("the same text again", x.lay(), 2);
        due("load as told again", x.boat(0, 3), 3);
        due("none later again", x.boat(0, 5) + x.boat(1, 5), 0);
        due("all empty again", x.count(2) + x.count(3) + x.count(4), 0);
        due("keep() from the beginning", x.keep(), 1);
        due("seen() from the beginning", x.seen(0, 1), 1);
    }

    private static void layKeepsText() {
        says(5, "(THE TEXT stays)");
        UnderTheRope x = Checks.written(BOAT);
        due("lay()", x.lay(), 1);
        due("count(5)", x.count(5), 11);
        Checks.put(x, BOAT);
        due("letters come behind it", x.lay(), 2);
        due("wipe()", x.wipe(), 22);
        UnderTheRope broken = Checks.written(BOAT + "y");
        due("behind NO", broken.lay(), NO);
        due("count(5) behind NO", broken.count(5), 12);
        Checks.put(broken, "1;");
        due("mended", broken.lay(), 1);
    }

    private static void lastCounts() {
        says(5, "y: of several the last one counts");
        String two = "b0,0,1,0,3;b10,1,1,0,0;";
        due("1, 9", laid("y1;y9;" + two).stands(0, 0), 9);
        due("9, 1", laid("y9;y1;" + two).stands(0, 0), 1);
        due("ahead and behind", laid("y9;" + two + "y5;").stands(0, 0), 5);
        due("three", laid("y9;y1;y6;" + two).stands(0, 0), 6);
        says(5, "h: of several the last one counts");
        String held = "b0,0,1,0,2;b10,1,1,0,2;";
        due("1, 30", laid("h1;h30;" + held).stands(0, 0), 30);
        due("30, 1", laid("h30;h1;" + held).stands(0, 0), 1);
        due("ahead and behind", laid("h30;" + held + "h5;").stands(0, 1), 5);
        says(5, "l: of several the last one counts");
        UnderTheRope x = laid("l1,1;l5,9;" + two);
        x.load(0, 9);
        due("l5,9: at least", x.fall(1, 0, 0), 2);
        due("l5,9: at most", x.fall(1, 0, 1), 9);
        UnderTheRope z = laid("l5,9;" + two + "l1,1;");
        due("l1,1: at least", z.fall(1, 0, 0), 1);
        due("l1,1: at most", z.fall(1, 0, 1), 1);
        z.load(0, 1);
        due("l1,1: one foot a minute", z.fall(1, 0, 0), NONE);
    }

    private static void without() {
        says(5, "4 without; 10 without; 2, 4 without");
        UnderTheRope x = laid("b0,0,1,0,3;b10,1,1,0,0;");
        due("y", x.stands(0, 0), 4);
        due("h", laid("b0,0,1,0,2;b10,1,1,0,2;").stands(0, 0), 10);
        due("R", x.fall(1, 0, 1), 4);
        int[] least = {1, 1, 2, 2, 3, 3, 4, 4, NONE, NONE};
        for (int w = 0; w <= 9; w++) {
            x.load(0, w);
            due("L, to a load of " + w, x.fall(1, 0, 0), least[w]);
        }
        due("no narrow place", x.count(1), 0);
    }

    private static void notOfTheCutBefore() {
        says(5, "LAID is a TEXT: nothing of the cut before stays");
        UnderTheRope x = laid("b0,0,1,0,3;b10,1,1,0,0;b5,0,3,9,2;n0,60;n0,60;n0,60;y9;h30;l5,9;");
        due("with all", x.stands(0, 0), 12);
        x.wipe();
        Checks.put(x, "b0,0,1,0,3;b10,1,1,0,0;");
        due("lay()", x.lay(), 2);
        due("boats", x.count(0), 2);
        due("narrow places", x.count(1), 0);
        due("y", x.stands(0, 0), 4);
        due("R", x.fall(1, 0, 1), 4);
        x.load(0, 9);
        due("L", x.fall(1, 0, 0), NONE);
        x.wipe();
        Checks.put(x, "b0,0,1,0,2;b10,1,1,0,2;");
        x.lay();
        due("h", x.stands(0, 0), 10);
        says(4, "fault() lays nothing");
        Checks.put(x, "n0,60;h1;" + BOAT);
        due("fault()", x.fault(), NONE);
        due("boats", x.count(0), 2);
        due("narrow places", x.count(1), 0);
        due("h", x.stands(0, 0), 10);
    }

    private static void boat() {
        says(6, "cell (what = 0), 1 if it goes DOWN (1), pace (2), LOAD (3), KIND (4), minutes sent later (5)");
        UnderTheRope x = laid("b60,0,3,9,3;b0,1,1,0,0;");
        x.later(0, 30);
        int[][] told = {{60, 0, 3, 9, 3, 30}, {0, 1, 1, 0, 0, 0}};
        for (int i = 0; i < 2; i++) {
            for (int what = 0; what < 6; what++) {
                due("boat(" + i + ", " + what + ")", x.boat(i, what), told[i][what]);
            }
        }
        x.load(0, 0);
        due("a changed load", x.boat(0, 3), 0);
        due("the other one's stays", x.boat(1, 3), 0);
        says(6, "BAD");
        for (int n : new int[] {-1, 2, 6, LEAST, MOST}) {
            due("boat(" + n + ", 0)", x.boat(n, 0), BAD);
        }
        for (int n : new int[] {-1, 6, LEAST, MOST}) {
            due("boat(0, " + n + ")", x.boat(0, n), BAD);
        }
        UnderTheRope one = laid(BOAT);
        due("of one: boat(0, 5)", one.boat(0, 5), 0);
        due("of one: boat(1, 5)", one.boat(1, 5), BAD);
    }
}
