/** The edges of promises 16 to 20: who yields, the best rule, what custom costs, sending, swapping. */
public final class RuleEdgeTest {
    private static final int BAD = Checks.BAD, NO = Checks.NO, NONE = Checks.NONE;
    private static final int LEAST = Checks.LEAST, MOST = Checks.MOST;
    private static final int PLAIN = 0, MAIL = 1, STUBBORN = 2, POLITE = 3;

    public static void main(String[] args) {
        stubbornOnes();
        politeOnes();
        byCustom();
        byLight();
        bySlow();
        byLoss();
        whoAsLoadsAre();
        ofOneWay();
        badAheadOfNo();
        noAheadOfNone();
        bestIsTheFirst();
        bestOfEach();
        customCosts();
        sendTheLeast();
        sendAtTheEdges();
        sendInPlace();
        sendByRule();
        swapTheFirst();
        swapByNoneLess();
        swapAsMuch();
        swapAheadOfNone();
        Checks.end("RuleEdgeTest");
    }

    private static void says(int promise, String words) {
        Checks.says(promise, words);
    }

    private static void due(String call, int got, int want) {
        Checks.due(call, got, want);
    }

    private static UnderTheRope laid(String text) {
        return Checks.laid(text);
    }

    /** Boat 0 goes up, boat 1 down, 10 cells apart; a row is pace, load, kind. */
    private static UnderTheRope two(int[] up, int[] down) {
        return laid("b0,0," + up[0] + "," + up[1] + "," + up[2] + ";b10,1," + down[0] + "," + down[1] + "," + down[2] + ";");
    }

    /** Who yields by each rule, asked either way round, and when they meet indeed. */
    private static void yielder(int[] up, int[] down, int... want) {
        UnderTheRope x = two(up, down);
        for (int rule = 0; rule < 4; rule++) {
            String cut = " of pace, load, kind " + java.util.Arrays.toString(up) + " and " + java.util.Arrays.toString(down);
            due("who(" + rule + ", 0, 1)" + cut, x.who(rule, 0, 1), want[rule]);
            due("who(" + rule + ", 1, 0)" + cut, x.who(rule, 1, 0), want[rule]);
            due("meeting(" + rule + ", 0, 2)" + cut, x.meeting(rule, 0, 2), want[rule]);
        }
    }

    private static int[] boat(int pace, int load, int kind) {
        return new int[] {pace, load, kind};
    }

    private static void stubbornOnes() {
        says(16, "STUBBORN ones never yield: the other one does; two of them are HELD");
        // Slow and empty they would yield by every rule, if they were not stubborn.
        for (int kind : new int[] {PLAIN, MAIL, POLITE}) {
            yielder(boat(1, 0, STUBBORN), boat(3, 9, kind), 1, 1, 1, 1);
            yielder(boat(3, 9, kind), boat(1, 0, STUBBORN), 0, 0, 0, 0);
        }
        yielder(boat(1, 0, STUBBORN), boat(3, 9, STUBBORN), NONE, NONE, NONE, NONE);
        yielder(boat(3, 9, STUBBORN), boat(1, 0, STUBBORN), NONE, NONE, NONE, NONE);
        yielder(boat(1, 0, STUBBORN), boat(1, 0, STUBBORN), NONE, NONE, NONE, NONE);
    }

    private static void politeOnes() {
        says(16, "POLITE ones yield to all that are not POLITE (but STUBBORN ones: to them, too)");
        // Fast and heavy they would not yield by any rule, if they were not polite.
        for (int kind : new int[] {PLAIN, MAIL, STUBBORN}) {
            yielder(boat(3, 9, POLITE), boat(1, 0, kind), 0, 0, 0, 0);
            yielder(boat(1, 0, kind), boat(3, 9, POLITE), 1, 1, 1, 1);
        }
        says(16, "two POLITE ones: by RULE");
        yielder(boat(1, 1, POLITE), boat(2, 2, POLITE), 1, 0, 0, 0);
        yielder(boat(2, 2, POLITE), boat(1, 1, POLITE), 1, 1, 1, 1);
        yielder(boat(2, 0, POLITE), boat(1, 1, POLITE), 0, 0, 1, 0);
        yielder(boat(1, 1, POLITE), boat(1, 1, POLITE), 1, 1, 1, 1);
    }

    private static void byCustom() {
        says(16, "0 CUSTOM: who is no MAIL to MAIL");
        yielder(boat(1, 9, PLAIN), boat(1, 0, MAIL), 0, 1, 0, 1);
        yielder(boat(1, 0, MAIL), boat(1, 9, PLAIN), 1, 0, 1, 0);
        says(16, "else who is empty (LOAD 0) to who is not");
        yielder(boat(1, 0, PLAIN), boat(1, 1, PLAIN), 0, 0, 0, 0);
        yielder(boat(1, 1, PLAIN), boat(1, 0, PLAIN), 1, 1, 1, 1);
        yielder(boat(1, 0, MAIL), boat(1, 1, MAIL), 0, 0, 0, 0);
        says(16, "else who goes DOWN");
        yielder(boat(1, 0, PLAIN), boat(1, 0, PLAIN), 1, 1, 1, 1);
        yielder(boat(1, 1, PLAIN), boat(1, 9, PLAIN), 1, 0, 1, 0);
        yielder(boat(1, 1, PLAIN), boat(1, 2, PLAIN), 1, 0, 1, 0);
        yielder(boat(1, 9, MAIL), boat(1, 9, MAIL), 1, 1, 1, 1);
        UnderTheRope turned = laid("b10,1,1,1,0;b0,0,1,1,0;");
        due("the lower number goes down", turned.who(0, 0, 1), 0);
        due("the lower number goes down", turned.who(0, 1, 0), 0);
    }

    private static void byLight() {
        says(16, "1 LIGHT: the one of less LOAD; else by CUSTOM");
        for (int w = 0; w <= 9; w++) {
            for (int v = 0; v <= 9; v++) {
                UnderTheRope x = two(boat(1, w, PLAIN), boat(1, v, PLAIN));
                due("loads " + w + ", " + v, x.who(1, 0, 1), w < v ? 0 : 1);
                UnderTheRope mail = two(boat(1, w, PLAIN), boat(1, v, MAIL));
                due("loads " + w + ", " + v + ", mail goes down", mail.who(1, 0, 1), w <= v ? 0 : 1);
            }
        }
    }

    private static void bySlow() {
        says(16, "2 SLOW: the one of less pace; else by CUSTOM");
        for (int s = 1; s <= 3; s++) {
            for (int t = 1; t <= 3; t++) {
                due("paces " + s + ", " + t, two(boat(s, 1, PLAIN), boat(t, 1, PLAIN)).who(2, 0, 1), s < t ? 0 : 1);
                due("paces " + s + ", " + t + ", mail goes down",
                    two(boat(s, 1, PLAIN), boat(t, 1, MAIL)).who(2, 0, 1), s <= t ? 0 : 1);
                due("paces " + s + ", " + t + ", up is empty",
                    two(boat(s, 0, PLAIN), boat(t, 1, PLAIN)).who(2, 0, 1), s <= t ? 0 : 1);
            }
        }
    }

    private static void byLoss() {
        says(16, "3 LOSS: the one for whom the minutes he would stand times 1 more than his LOAD are less; else as LIGHT");
        for (int y = 1; y <= 9; y++) {
            for (int w = 0; w <= 9; w++) {
                UnderTheRope x = laid("b0,0,1," + w + ",0;b10,1,1,0,0;b10,1,1,0,1;y" + y + ";");
                for (int v = 0; v <= 9; v++) {
                    x.load(1, v);
                    x.load(2, v);
                    int up = (y + w) * (w + 1);
                    int down = (y + v) * (v + 1);
                    due("y" + y + ", loads " + w + ", " + v, x.who(3, 0, 1), up < down ? 0 : 1);
                    due("y" + y + ", loads " + w + ", " + v + ", mail goes down", x.who(3, 0, 2), up <= down ? 0 : 2);
                }
            }
        }
    }

    private static void whoAsLoadsAre() {
        says(16, "who would yield, by LOADS as they are, whether they meet or not");
        UnderTheRope x = laid("b30,0,1,1,0;b20,1,1,1,0;b60,0,1,1,0;b0,1,1,1,0;");
        due("they never meet", x.meetings(0), 0);
        due("down", x.who(0, 0, 1), 1);
        due("those who begin there", x.who(0, 2, 3), 3);
        x.load(0, 0);
        due("up is empty now", x.who(0, 0, 1), 0);
        x.undo();
        due("and is not", x.who(0, 0, 1), 1);
        x.later(0, 30);
        due("sent later or not", x.who(0, 0, 1), 1);
    }

    private static void ofOneWay() {
        says(16, "NO: of one way");
        UnderTheRope x = laid(Checks.SIX);
        int[] way = {0, 1, 1, 0, 1, 0};
        for (int rule = 0; rule < 4; rule++) {
            for (int i = 0; i < 6; i++) {
                for (int j = 0; j < 6; j++) {
                    int got = x.who(rule, i, j);
                    String call = "who(" + rule + ", " + i + ", " + j + ")";
                    if (i == j) {
                        due(call, got, BAD);
                    } else if (way[i] == way[j]) {
                        due(call, got, NO);
                    } else {
                        due(call + " is one of the two", got == i || got == j ? 1 : 0, 1);
                    }
                }
            }
        }
    }

    private static void badAheadOfNo() {
        says(16, "BAD (alike, too) ahead of NO");
        UnderTheRope x = new UnderTheRope();
        due("of one way", x.who(0, 0, 3), NO);
        for (int rule : new int[] {-1, 4, LEAST, MOST}) {
            due("who(" + rule + ", 0, 3)", x.who(rule, 0, 3), BAD);
            due("who(" + rule + ", 0, 1)", x.who(rule, 0, 1), BAD);
        }
        due("alike", x.who(0, 3, 3), BAD);
        for (int i : new int[] {-1, 4, LEAST, MOST}) {
            due("who(0, " + i + ", 0)", x.who(0, i, 0), BAD);
            due("who(0, 0, " + i + ")", x.who(0, 0, i), BAD);
            due("alike and none", x.who(0, i, i), BAD);
        }
    }

    private static void noAheadOfNone() {
        says(16, "NO ahead of NONE");
        UnderTheRope x = laid("b0,0,1,0,2;b5,0,1,0,2;b10,1,1,0,2;b15,1,1,0,2;");
        due("two stubborn ones that go up", x.who(0, 0, 1), NO);
        due("two stubborn ones that go down", x.who(0, 2, 3), NO);
        due("two of unlike ways", x.who(0, 0, 3), NONE);
        due("alike", x.who(0, 0, 0), BAD);
    }

    private static void bestIsTheFirst() {
        says(17, "the RULE by which all together are made to stand least, of several the first");
        UnderTheRope all = laid("b0,0,1,0,3;b10,1,1,9,0;");
        due("all alike", all.best(0), 0);
        due("all alike: as much", all.best(1), 4);
        UnderTheRope none = laid("b0,0,1,0,0;");
        due("none meet", none.best(0), 0);
        due("none meet: as much", none.best(1), 0);
        // The heavy one goes down: custom 13, light, slow and loss 5.
        UnderTheRope light = laid("b0,0,1,1,0;b10,1,3,9,0;");
        due("1, 2 and 3 are alike", light.best(0), 1);
        due("1, 2 and 3 are alike: as much", light.best(1), 5);
        UnderTheRope slow = laid("b0,0,1,9,0;b10,1,3,1,0;");
        due("0, 1 and 3 are alike, 2 is more", slow.best(0), 0);
    }

    private static void bestOfEach() {
        says(17, "BEST: the RULE (what = 0), as much (1)");
        // By custom and slow 13, by light 5.
        UnderTheRope light = laid("b0,0,3,1,0;b10,1,1,9,0;");
        due("light alone", light.best(0), 1);
        due("light alone: as much", light.best(1), 5);
        // Boat 0 comes to 9, which is narrow, boat 1 to 8: by slow boat 1 yields, else the empty boat 0.
        UnderTheRope slow = laid("b0,0,3,0,0;b11,1,1,1,0;n9,60;");
        due("slow alone", slow.best(0), 2);
        due("slow alone: as much", slow.best(1), 5);
        due("slow: what custom costs", slow.custom(), 5);
        due("by custom", slow.stands(0, -1), 10);
        slow.load(1, 0);
        // Both empty: by custom and light boat 1 yields, too.
        due("as loads are", slow.best(0), 0);
        says(17, "BAD");
        for (int what : new int[] {-1, 2, LEAST, MOST}) {
            due("best(" + what + ")", slow.best(what), BAD);
        }
    }

    private static void customCosts() {
        says(18, "by how much more they do by RULE 0");
        due("by nothing", laid("b0,0,1,0,3;b10,1,1,9,0;").custom(), 0);
        due("of one boat", laid("b0,0,1,9,0;").custom(), 0);
        due("by 8", laid("b0,0,3,1,0;b10,1,1,9,0;").custom(), 8);
        UnderTheRope x = laid("b0,0,1,8,0;b10,1,1,9,0;");
        due("by 1", x.custom(), 1);
        x.load(0, 9);
        due("alike", x.custom(), 0);
        // The most: three heavy ones go down and yield to three light ones.
        UnderTheRope most = laid("b0,0,1,1,0;b0,0,1,1,0;b0,0,1,1,0;b10,1,1,9,0;b10,1,1,9,0;b10,1,1,9,0;");
        due("nine times 13 for nine times 5", most.custom(), 72);
        due("as much", most.best(1), 45);
    }

    private static void sendTheLeast() {
        says(19, "by how many minutes (0 to 30) later a BOAT would have to be sent, of several the least; as much");
        // Boat 0 yields wherever they meet: in minute 5 at 5.
        UnderTheRope any = laid("b0,0,1,0,3;b10,1,1,5,0;");
        due("all alike", any.send(0, 0, 0), 0);
        due("all alike", any.send(0, 1, 0), 0);
        due("all alike: as much", any.send(0, 0, 1), 4);
        // Narrow 5: boat 0 a minute later comes to 5 in minute 6 (boat 1 to 4), two minutes later to 4 in minute 6.
        UnderTheRope narrow = laid("b0,0,1,0,3;b10,1,1,5,0;n5,5;");
        due("two of 2 to 30", narrow.send(0, 0, 0), 2);
        due("two: as much", narrow.send(0, 0, 1), 4);
        due("the other one: one of 1 to 30", narrow.send(0, 1, 0), 1);
        due("the other one: as much", narrow.send(0, 1, 1), 4);
        due("now", narrow.stands(0, -1), 10);
        due("of one that begins there", laid("b60,0,1,0,0;b10,1,1,5,0;").send(0, 0, 0), 0);
    }

    private static void sendAtTheEdges() {
        says(19, "(0 to 30)");
        // Sent d later it has come to 30 less a half of d, when they meet.
        due("30 is tried", laid("b0,0,1,0,3;b60,1,1,5,0;n16,60;").send(0, 0, 0), 30);
        due("30 is tried: as much", laid("b0,0,1,0,3;b60,1,1,5,0;n16,60;").send(0, 0, 1), 4);
        due("31 is not", laid("b0,0,1,0,3;b60,1,1,5,0;n15,60;").send(0, 0, 0), 0);
        due("31 is not: as much", laid("b0,0,1,0,3;b60,1,1,5,0;n15,60;").send(0, 0, 1), 10);
        due("28", laid("b0,0,1,0,3;b60,1,1,5,0;n17,60;").send(0, 0, 0), 28);
        UnderTheRope x = laid("b0,0,1,0,3;b60,1,1,5,0;n0,29;");
        x.later(0, 30);
        due("0 is tried", x.send(0, 0, 0), 0);
        due("0 is tried: as much", x.send(0, 0, 1), 4);
        says(19, "BAD");
        for (int n : new int[] {-1, 2, LEAST, MOST}) {
            due("send(0, " + n + ", 0)", x.send(0, n, 0), BAD);
            due("send(0, 0, " + n + ")", x.send(0, 0, n), BAD);
        }
        for (int rule : new int[] {-1, 4, LEAST, MOST}) {
            due("send(" + rule + ", 0, 0)", x.send(rule, 0, 0), BAD);
        }
    }

    private static void sendInPlace() {
        says(19, "(in place of what it is)");
        for (int d = 0; d <= 30; d++) {
            UnderTheRope x = laid("b0,0,1,0,3;b10,1,1,5,0;n5,5;");
            x.later(0, d);
            due("sent " + d + " later now", x.send(0, 0, 0), 2);
            due("sent " + d + " later now: as much", x.send(0, 0, 1), 4);
            due("nothing changes", x.boat(0, 5), d);
            due("nothing more to undo", x.count(3), 1);
        }
        UnderTheRope other = laid("b0,0,1,0,3;b10,1,1,5,0;n5,5;");
        other.later(1, 1);
        due("the other one stays as it is", other.send(0, 0, 0), 0);
    }

    private static void sendByRule() {
        says(19, "by a RULE");
        // By slow boat 1 yields, by the others boat 0, which comes to the narrow 9 in minute 3.
        UnderTheRope x = laid("b0,0,3,0,0;b11,1,1,1,0;n9,60;");
        // One or two minutes later it still comes to 9, three minutes later to 6 in minute 5, as boat 1 does.
        due("by custom", x.send(0, 0, 0), 3);
        due("by custom: as much", x.send(0, 0, 1), 4);
        due("by slow at once", x.send(2, 0, 0), 0);
        due("by slow: as much", x.send(2, 0, 1), 5);
    }

    private static void swapTheFirst() {
        says(20, "of several the first (by the lower, then the higher): 8 times the one and the other");
        // Boat 0 yields to both, with 9: 2 of either of them would be better.
        UnderTheRope higher = laid("b0,0,1,9,3;b10,1,1,2,0;b20,1,1,2,0;");
        due("0 and 1 as 0 and 2", higher.swap(0, 0), 1);
        due("as much", higher.swap(0, 1), 12);
        // The one that goes down yields to both: either of them might take its 9.
        UnderTheRope lower = laid("b0,0,1,2,0;b0,0,1,2,0;b10,1,1,9,0;");
        due("0 and 2 as 1 and 2", lower.swap(0, 0), 2);
        due("as much", lower.swap(0, 1), 12);
        UnderTheRope second = laid("b0,0,1,9,3;b10,1,1,2,0;b20,1,1,1,0;");
        due("0 and 2 are less", second.swap(0, 0), 2);
        due("as much", second.swap(0, 1), 10);
        UnderTheRope third = laid("b60,0,1,5,0;b0,0,1,9,3;b20,1,1,2,0;");
        due("1 and 2", third.swap(0, 0), 10);
        UnderTheRope last = laid("b60,0,1,9,0;b60,0,1,9,0;b60,0,1,9,0;b60,0,1,9,0;b0,0,1,9,3;b20,1,1,2,0;");
        due("4 and 5, the highest", last.swap(0, 0), 37);
        due("of one way", laid("b0,0,1,9,3;b60,0,1,1,0;b20,1,1,9,0;").swap(0, 0), 1);
    }

    private static void swapByNoneLess() {
        says(20, "none (by none less than now)");
        due("of one boat", laid("b0,0,1,9,0;").swap(0, 0), NONE);
        due("of one boat: as much", laid("b0,0,1,9,0;").swap(0, 1), NONE);
        due("of loads alike", laid("b0,0,1,9,3;b10,1,1,9,0;").swap(0, 0), NONE);
        due("the light one yields already", laid("b0,0,1,1,3;b10,1,1,9,0;").swap(0, 0), NONE);
        due("by as much: the two that do not yield", laid("b0,0,1,1,3;b10,1,1,9,0;b10,1,1,8,0;").swap(0, 0), NONE);
        due("by as much: as much", laid("b0,0,1,1,3;b10,1,1,9,0;b10,1,1,8,0;").swap(0, 1), NONE);
        due("less by 1", laid("b0,0,1,9,3;b10,1,1,8,0;").swap(0, 0), 1);
        due("less by 1: as much", laid("b0,0,1,9,3;b10,1,1,8,0;").swap(0, 1), 12);
        due("by light it is as it is", laid("b0,0,1,2,0;b10,1,1,9,0;").swap(1, 0), NONE);
        due("by custom it is not", laid("b0,0,1,2,0;b10,1,1,9,0;").swap(0, 0), 1);
    }

    private static void swapAsMuch() {
        says(20, "SWAP: nothing changes");
        UnderTheRope x = laid("b0,0,1,9,3;b10,1,1,2,0;");
        x.later(0, 3);
        due("swap(0, 0)", x.swap(0, 0), 1);
        due("swap(0, 1)", x.swap(0, 1), 6);
        due("load of 0", x.boat(0, 3), 9);
        due("load of 1", x.boat(1, 3), 2);
        due("later", x.boat(0, 5), 3);
        due("one can be undone", x.count(3), 1);
        // Sent 2 minutes later it is at 4 when they meet, not in the narrow 5.
        UnderTheRope late = laid("b0,0,1,9,3;b10,1,1,2,0;n5,5;");
        due("in the narrow place", late.swap(0, 1), 12);
        late.later(0, 2);
        due("as boats are sent", late.swap(0, 1), 6);
    }

    private static void swapAheadOfNone() {
        says(20, "BAD ahead of NONE");
        UnderTheRope x = laid("b0,0,1,9,0;");
        for (int what : new int[] {-1, 2, LEAST, MOST}) {
            due("swap(0, " + what + ")", x.swap(0, what), BAD);
        }
        for (int rule : new int[] {-1, 4, LEAST, MOST}) {
            due("swap(" + rule + ", 0)", x.swap(rule, 0), BAD);
            due("swap(" + rule + ", 1)", x.swap(rule, 1), BAD);
        }
    }
}
