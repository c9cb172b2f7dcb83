/** What the tests of edges share: the sentence that is looked at, and the answers that are not as due. */
final class Checks {
    static final int BAD = -1, NO = -2, FULL = -3, NONE = -4;
    static final int LEAST = Integer.MIN_VALUE, MOST = Integer.MAX_VALUE;
    private static final int MOST_TOLD = 40;
    private static int wrong = 0;
    private static int checked = 0;
    private static String sentence = "";

    private Checks() {
    }

    /** Which promise, and which words of the document, the next answers belong to. */
    static void says(int promise, String words) {
        sentence = "promise " + promise + ", '" + words + "'";
    }

    static void due(String call, int got, int want) {
        due(call, Integer.toString(got), Integer.toString(want));
    }

    static void due(String call, String got, String want) {
        checked++;
        if (!got.equals(want)) {
            fail(call + " answered " + got + ", due is " + want);
        }
    }

    static void fail(String what) {
        wrong++;
        if (wrong <= MOST_TOLD) {
            System.out.println(sentence + ": " + what);
        }
    }

    static void end(String name) {
        System.out.println(name + ": " + checked + " answers, " + wrong + " not as due");
        if (wrong != 0) {
            System.exit(1);
        }
    }

    static void put(UnderTheRope x, String text) {
        for (char letter : text.toCharArray()) {
            x.write(letter);
        }
    }

    static UnderTheRope written(String text) {
        UnderTheRope x = new UnderTheRope();
        put(x, text);
        return x;
    }

    static UnderTheRope laid(String text) {
        UnderTheRope x = written(text);
        if (x.lay() < 1) {
            fail("not laid: " + text);
        }
        return x;
    }

    static int faultOf(String text) {
        return written(text).fault();
    }

    static boolean isWithin(int number, int low, int high) {
        return low <= number && number <= high;
    }

    /** The cut that a new object has, as the document tells it. */
    static final String FIRST = "b0,0,2,3,0;b60,1,2,0,0;b50,1,1,5,1;b10,0,1,9,2;n28,32;y4;h10;l2,4;";
    /** Six boats, three up and three down, of all kinds. */
    static final String SIX = "b0,0,2,3,0;b58,1,3,7,1;b45,1,1,0,0;b5,0,3,1,3;b60,1,2,9,2;b12,0,1,4,0;n10,14;n30,30;n44,50;y3;h8;l3,5;";
}
