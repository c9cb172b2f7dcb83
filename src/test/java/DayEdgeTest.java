/** The edges of part 2 of the document and of promises 7 to 12: minutes, meetings, standing. */
public final class DayEdgeTest {
    private static final int BAD = Checks.BAD, NONE = Checks.NONE, LEAST = Checks.LEAST, MOST = Checks.MOST;

    public static void main(String[] args) {
        atItsCell();
        lastMinute();
        meetingInTheLastMinute();
        toTheEndAtMost();
        standsAMinuteLess();
        heldForMinutes();
        sentLater();
        whoMeets();
        whenTheyMeet();
        thereInTheSameMinute();
        moreThanAlready();
        narrowOfWhoYields();
        narrowOfThoseHeld();
        narrowAtTheEnds();
        severalNarrow();
        beginsThere();
        thereInTime();
        beyondTheLastMinute();
        ofAllTogether();
        yields();
        meetingsInOrder();
        meetingsThatThereAre();
        meetingsByRule();
        whereTheOneThatGoesUpIs();
        Checks.end("DayEdgeTest");
    }

    private static void says(int promise, String words) {
        Checks.says(promise, words);
    }

    private static void due(String call, int got, int want) {
        Checks.due(call, got, want);
    }

    private static UnderTheRope laid(String text) {
        return Checks.laid(text);
    }

    private static void atItsCell() {
        says(7, "at 0 each BOAT is at its cell");
        for (int cell = 0; cell <= 60; cell++) {
            for (int way = 0; way <= 1; way++) {
                UnderTheRope x = laid("b" + cell + "," + way + ",3,0,0;");
                due("where(0, 0, 0) of " + cell, x.where(0, 0, 0), cell);
                x.later(0, 30);
                due("sent later, too", x.where(0, 0, 0), cell);
            }
        }
    }

    private static void lastMinute() {
        says(7, "at the end of a minute (0 to 120)");
        UnderTheRope x = laid("b0,0,1,0,0;b60,1,1,9,2;");
        for (int rule = 0; rule < 4; rule++) {
            due("where(.., 0)", x.where(rule, 0, 0), 0);
            due("where(.., 1)", x.where(rule, 0, 1), 1);
            due("where(.., 119)", x.where(rule, 0, 119), 60);
            due("where(.., 120)", x.where(rule, 0, 120), 60);
            for (int minute : new int[] {-1, 121, LEAST, MOST}) {
                due("where(.., " + minute + ")", x.where(rule, 0, minute), BAD);
            }
        }
    }

    /**
     * Boats 4 and 5 come to their end where boat 3 waits, boats 1 and 2 where boat 0 comes: these two stand for an
     * hour and more, and meet one another at last. All are STUBBORN.
     */
    private static UnderTheRope slowest(String narrow, int laterBelow, int laterAbove) {
        UnderTheRope x = laid("b0,0,1,0,2;b1,1,1,0,2;b1,1,1,0,2;b60,1,1,0,2;b59,0,1,0,2;b59,0,1,0,2;h30;" + narrow);
        for (int i = 0; i < 3; i++) {
            x.later(i, laterBelow);
        }
        x.later(3, laterAbove);
        return x;
    }

    private static void meetingInTheLastMinute() {
        says(11, "Minutes are 1 to 120");
        UnderTheRope x = slowest("", 30, 30);
        due("all of them", x.meetings(0), 5);
        int[][] told = {{1, 28, 60}, {1, 29, 60}, {31, 1, 1}, {31, 2, 1}, {120, 3, 30}};
        for (int k = 0; k < 5; k++) {
            due("minute of " + k, x.meeting(0, k, 0), told[k][0]);
            due("the two of " + k, x.meeting(0, k, 1), told[k][1]);
            due("held: " + k, x.meeting(0, k, 2), NONE);
            due("where: " + k, x.meeting(0, k, 3), told[k][2]);
        }
        due("the last minute's place", x.where(0, 0, 120), 30);
        due("the minute ahead of it", x.where(0, 0, 119), 29);
        // With 33 for 30 minutes for boat 3, they meet in minute 123, or 3 minutes sooner.
        due("in minute 123", slowest("n60,60;", 30, 30).meetings(0), 4);
        due("in minute 121", slowest("n60,60;", 30, 25).meetings(0), 4);
        due("in minute 120", slowest("n60,60;", 30, 24).meetings(0), 5);
        due("in minute 120: when", slowest("n60,60;", 30, 24).meeting(0, 4, 0), 120);
        due("in minute 121: not told", slowest("n60,60;", 30, 25).meeting(0, 4, 0), BAD);
        due("in minute 121: not made to stand", slowest("n60,60;", 30, 25).stands(0, 0), 60);
        says(11, "the first minute");
        due("they meet in it", laid("b30,0,1,0,0;b31,1,1,0,0;").meeting(0, 0, 0), 1);
    }

    private static void toTheEndAtMost() {
        says(7, "goes on by S cells (to the end at most)");
        for (int pace = 1; pace <= 3; pace++) {
            for (int cell = 55; cell <= 60; cell++) {
                UnderTheRope up = laid("b" + cell + ",0," + pace + ",0,0;");
                due("up from " + cell + " by " + pace, up.where(0, 0, 1), Math.min(60, cell + pace));
                UnderTheRope down = laid("b" + (60 - cell) + ",1," + pace + ",0,0;");
                due("down from " + (60 - cell) + " by " + pace, down.where(0, 0, 1), Math.max(0, 60 - cell - pace));
                due("up: and stays", up.where(0, 0, 120), 60);
                due("down: and stays", down.where(0, 0, 120), 0);
            }
        }
    }

    private static void standsAMinuteLess() {
        says(9, "stands for Y (1 to 9) minutes and one more for each of his LOAD");
        for (int y = 1; y <= 9; y++) {
            for (int w = 0; w <= 9; w++) {
                // They meet in minute 5, at 5.
                UnderTheRope x = laid("b0,0,1," + w + ",3;b10,1,1,9,0;y" + y + ";");
                String cut = " of y" + y + ", load " + w;
                due("stands(0, 0)" + cut, x.stands(0, 0), y + w);
                due("stands(0, 1)" + cut, x.stands(0, 1), 0);
                due("stands still" + cut, x.where(0, 0, 5 + y + w), 5);
                due("goes on" + cut, x.where(0, 0, 6 + y + w), 6);
                due("there(0, 0)" + cut, x.there(0, 0), 60 + y + w);
                due("there(0, 1)" + cut, x.there(0, 1), 10);
            }
        }
    }

    private static void heldForMinutes() {
        says(9, "two that are HELD stand for H (1 to 30) minutes");
        for (int h = 1; h <= 30; h++) {
            UnderTheRope x = laid("b0,0,1,0,2;b10,1,1,9,2;h" + h + ";");
            due("stands(0, 0) of h" + h, x.stands(0, 0), h);
            due("stands(0, 1) of h" + h, x.stands(0, 1), h);
            due("up stands still", x.where(0, 0, 5 + h), 5);
            due("down stands still", x.where(0, 1, 5 + h), 5);
            due("up goes on", x.where(0, 0, 6 + h), 6);
            due("down goes on", x.where(0, 1, 6 + h), 4);
            due("none yields", x.yields(0, 0) + x.yields(0, 1), 0);
        }
    }

    private static void sentLater() {
        says(7, "sent later by d minutes stands d minutes at first");
        for (int d = 0; d <= 30; d++) {
            UnderTheRope x = laid("b0,0,1,0,0;b60,1,2,0,0;");
            x.later(0, d);
            due("still at its cell by " + d, x.where(0, 0, d), 0);
            due("goes on by " + d, x.where(0, 0, d + 1), 1);
            due("the other one goes", x.where(0, 1, 1), 58);
            due("no standing by meetings", x.stands(0, 0), 0);
        }
        says(8, "who begins there is THERE at 0, sent later, too");
        UnderTheRope end = laid("b60,0,1,0,0;b0,1,1,0,0;");
        end.later(0, 30);
        end.later(1, 30);
        due("up", end.there(0, 0), 0);
        due("down", end.there(0, 1), 0);
    }

    private static void whoMeets() {
        says(11, "the one that goes UP was at a lower cell than the other one ahead of it and is not any more");
        for (int up = 0; up <= 60; up++) {
            for (int down = 0; down <= 60; down++) {
                UnderTheRope x = laid("b" + up + ",0,1,0,0;b" + down + ",1,1,0,0;");
                due("up from " + up + ", down from " + down, x.meetings(0), up < down ? 1 : 0);
            }
        }
        says(11, "Two of unlike ways MEET");
        due("both up, one overtakes", laid("b0,0,3,0,0;b10,0,1,0,0;").meetings(0), 0);
        due("both down, one overtakes", laid("b60,1,3,0,0;b50,1,1,0,0;").meetings(0), 0);
        due("one alone", laid("b0,0,3,0,0;").meetings(0), 0);
    }

    private static void whenTheyMeet() {
        says(12, "minute, where");
        for (int apart = 1; apart <= 60; apart++) {
            for (int s = 1; s <= 3; s++) {
                for (int t = 1; t <= 3; t++) {
                    // The lower number goes down here: 'where' is still of the one that goes up.
                    UnderTheRope x = laid("b" + apart + ",1," + t + ",0,0;b0,0," + s + ",0,0;");
                    int minute = (apart + s + t - 1) / (s + t);
                    String cut = " of " + apart + " apart by " + s + " and " + t;
                    due("minute" + cut, x.meeting(0, 0, 0), minute);
                    due("where" + cut, x.meeting(0, 0, 3), Math.min(60, s * minute));
                }
            }
        }
    }

    private static void thereInTheSameMinute() {
        says(8, "neither was THERE ahead of this minute");
        UnderTheRope up = laid("b59,0,1,2,3;b60,1,1,0,0;n60,60;");
        due("they meet", up.meetings(0), 1);
        due("it is there in that minute", up.there(0, 0), 1);
        says(9, "all that are added, also if it is THERE");
        due("who yields at its end", up.stands(0, 0), 9);
        due("the other one", up.stands(0, 1), 3);
        due("the other one goes on behind that", up.there(0, 1), 63);
        UnderTheRope down = laid("b1,1,1,2,3;b0,0,1,0,0;n0,0;");
        due("down: there in that minute", down.there(0, 0), 1);
        due("down: made to stand", down.stands(0, 0), 9);
        due("down: the other one", down.there(0, 1), 63);
        due("held at the end", laid("b59,0,1,0,2;b60,1,1,0,2;").stands(0, 0), 10);
        due("held at the end: there", laid("b59,0,1,0,2;b60,1,1,0,2;").there(0, 0), 1);
        due("both there", laid("b58,0,2,0,3;b60,1,3,0,0;").there(0, 0), 1);
    }

    private static void moreThanAlready() {
        says(9, "(more than it does already)");
        UnderTheRope twice = laid("b0,0,1,2,3;b10,1,1,0,0;b10,1,1,0,0;");
        due("two in one minute", twice.stands(0, 0), 12);
        due("two in one minute: there", twice.there(0, 0), 72);
        UnderTheRope next = laid("b0,0,1,2,3;b10,1,1,0,0;b12,1,1,0,0;");
        due("another one while it stands", next.meeting(0, 1, 0), 7);
        due("another one while it stands: there", next.there(0, 0), 72);
        due("it stands still", next.where(0, 0, 17), 5);
        due("it goes on", next.where(0, 0, 18), 6);
        UnderTheRope held = laid("b0,0,1,0,2;b10,1,1,0,2;b10,1,1,0,2;");
        due("held twice", held.stands(0, 0), 20);
        due("held twice: there", held.there(0, 0), 80);
        due("held once", held.there(0, 1), 20);
        UnderTheRope waits = laid("b0,0,1,2,3;b10,1,1,0,0;");
        waits.later(0, 30);
        due("while it is not sent yet", waits.meeting(0, 0, 0), 10);
        due("while it is not sent yet: there", waits.there(0, 0), 96);
        due("only what is added counts", waits.stands(0, 0), 6);
    }

    private static void narrowOfWhoYields() {
        says(9, "If the one that yields is in a NARROW place then (where it is behind step 1), both stand 3 more");
        for (int a = 0; a <= 60; a++) {
            for (int b = a; b <= 60; b++) {
                String narrow = "n" + a + "," + b + ";";
                // In minute 6 the one that goes up comes to 6 and the other one to 5.
                UnderTheRope up = laid("b0,0,1,0,3;b11,1,1,2,0;" + narrow);
                int more = a <= 6 && 6 <= b ? 3 : 0;
                due("up yields, " + narrow, up.stands(0, 0), 4 + more);
                due("up yields: the other one, " + narrow, up.stands(0, 1), more);
                UnderTheRope down = laid("b0,0,1,0,0;b11,1,1,2,3;" + narrow);
                more = a <= 5 && 5 <= b ? 3 : 0;
                due("down yields, " + narrow, down.stands(0, 1), 6 + more);
                due("down yields: the other one, " + narrow, down.stands(0, 0), more);
            }
        }
        UnderTheRope x = laid("b0,0,1,0,3;b11,1,1,2,0;n6,6;");
        due("who yields stands 7", x.there(0, 0), 67);
        due("the other one stands 3", x.there(0, 1), 14);
        due("the other one does not yield", x.yields(0, 1), 0);
    }

    private static void narrowOfThoseHeld() {
        says(9, "(of those HELD: either)");
        for (int a = 0; a <= 60; a++) {
            for (int b = a; b <= 60; b++) {
                String narrow = "n" + a + "," + b + ";";
                UnderTheRope x = laid("b0,0,1,0,2;b11,1,1,2,2;" + narrow);
                int want = 10 + (a <= 6 && 6 <= b || a <= 5 && 5 <= b ? 3 : 0);
                due("up, " + narrow, x.stands(0, 0), want);
                due("down, " + narrow, x.stands(0, 1), want);
            }
        }
    }

    private static void narrowAtTheEnds() {
        says(9, "cells A to B (0 to 60)");
        UnderTheRope low = laid("b0,0,1,0,3;b10,1,1,0,0;n0,0;");
        low.later(0, 30);
        due("at 0", low.stands(0, 0), 7);
        due("at 0: the other one", low.stands(0, 1), 3);
        UnderTheRope high = laid("b60,1,1,0,3;b50,0,1,0,0;n60,60;");
        high.later(0, 30);
        due("at 60", high.stands(0, 0), 7);
        due("at 60: the other one", high.stands(0, 1), 3);
        UnderTheRope beside = laid("b60,1,1,0,3;b50,0,1,0,0;n0,59;");
        beside.later(0, 30);
        due("beside 60", beside.stands(0, -1), 4);
    }

    private static void severalNarrow() {
        says(9, "both stand 3 more, in however many NARROW places");
        String two = "b0,0,1,0,3;b10,1,1,2,0;";
        due("in three", laid(two + "n5,5;n0,60;n4,6;").stands(0, -1), 10);
        due("in the first", laid(two + "n5,5;n0,4;n6,60;").stands(0, -1), 10);
        due("in the second", laid(two + "n0,4;n5,5;n6,60;").stands(0, -1), 10);
        due("in the third", laid(two + "n0,4;n6,60;n5,5;").stands(0, -1), 10);
        due("between them", laid(two + "n0,4;n6,60;n20,30;").stands(0, -1), 4);
        due("held in three", laid("b0,0,1,0,2;b10,1,1,2,2;n5,5;n0,60;n4,6;").stands(0, -1), 26);
    }

    private static void beginsThere() {
        says(8, "Who is at the end is THERE (those who begin there, at 0)");
        due("up at 60", laid("b60,0,1,0,0;").there(0, 0), 0);
        due("up at 59", laid("b59,0,3,0,0;").there(0, 0), 1);
        due("up at 0", laid("b0,0,1,0,0;").there(0, 0), 60);
        due("down at 0", laid("b0,1,1,0,0;").there(0, 0), 0);
        due("down at 1", laid("b1,1,3,0,0;").there(0, 0), 1);
        due("down at 60", laid("b60,1,1,0,0;").there(0, 0), 60);
        UnderTheRope x = laid("b60,0,1,0,0;b60,1,1,0,0;b0,1,1,0,0;b0,0,1,0,0;");
        due("they meet none", x.meetings(0), 1);
        due("but the two that are not there", x.meeting(0, 0, 1), 11);
        due("where the first one stays", x.where(0, 0, 120), 60);
        due("where the third one stays", x.where(0, 2, 120), 0);
    }

    private static void thereInTime() {
        says(8, "NONE (none: not in 120 minutes)");
        // Held twice for 30 minutes: 60 cells take 120 minutes.
        UnderTheRope up = laid("h30;b0,0,1,0,2;b60,1,1,0,2;b60,1,1,0,2;");
        due("in 120", up.there(0, 0), 120);
        due("in 120: where then", up.where(0, 0, 120), 60);
        due("in 120: where ahead of it", up.where(0, 0, 119), 59);
        up.later(0, 1);
        due("in 121", up.there(0, 0), NONE);
        due("in 121: where at 120", up.where(0, 0, 120), 59);
        UnderTheRope down = laid("h30;b60,1,1,0,2;b0,0,1,0,2;b0,0,1,0,2;");
        due("down in 120", down.there(0, 0), 120);
        down.later(0, 1);
        due("down in 121", down.there(0, 0), NONE);
        due("down in 121: where at 120", down.where(0, 0, 120), 1);
    }

    private static void beyondTheLastMinute() {
        says(9, "all that are added, also if they last beyond 120");
        UnderTheRope x = slowest("", 30, 30);
        due("30 of them begin in minute 120", x.stands(0, 0), 90);
        due("the other one", x.stands(0, 3), 90);
        due("all together", x.stands(0, -1), 300);
        due("never there", x.there(0, 0), NONE);
    }

    private static void ofAllTogether() {
        says(9, "of all together (i = -1)");
        UnderTheRope x = laid("b0,0,1,0,3;b10,1,1,2,0;n5,5;");
        due("stands(0, -1)", x.stands(0, -1), x.stands(0, 0) + x.stands(0, 1));
        due("stands(0, -1)", x.stands(0, -1), 10);
        due("of none that meet", laid("b0,0,1,0,0;").stands(0, -1), 0);
        for (int i : new int[] {-2, 2, 6, LEAST, MOST}) {
            due("stands(0, " + i + ")", x.stands(0, i), BAD);
        }
        for (int rule : new int[] {-1, 4, LEAST, MOST}) {
            due("stands(" + rule + ", -1)", x.stands(rule, -1), BAD);
        }
    }

    private static void yields() {
        says(10, "How often a BOAT yields");
        UnderTheRope x = laid("b0,0,1,0,3;b10,1,1,0,0;b20,1,1,0,0;b30,1,1,0,0;b40,1,1,0,0;b50,1,1,0,0;");
        due("never", x.yields(0, 1), 0);
        due("as often as there are others", x.yields(0, 0), 5);
        due("i -1 is of stands alone", x.yields(0, -1), BAD);
        due("held", laid("b0,0,1,0,2;b10,1,1,0,2;").yields(0, 0), 0);
        due("by custom", laid("b0,0,1,1,0;b10,1,3,9,0;").yields(0, 1), 1);
        due("by light", laid("b0,0,1,1,0;b10,1,3,9,0;").yields(1, 1), 0);
        due("by light: the other one", laid("b0,0,1,1,0;b10,1,3,9,0;").yields(1, 0), 1);
    }

    private static void meetingsInOrder() {
        says(12, "MEETINGS in order (by minutes, then numbers): 8 times the lower and the higher");
        UnderTheRope x = laid("b0,0,1,1,0;b10,1,1,1,0;b0,0,1,1,0;b10,1,1,1,0;b0,0,1,1,0;b10,1,1,1,0;");
        int[] pairs = {1, 3, 5, 10, 12, 19, 21, 28, 37};
        due("the most there can be", x.meetings(0), 9);
        for (int k = 0; k < 9; k++) {
            due("minute of " + k, x.meeting(0, k, 0), 5);
            due("the two of " + k, x.meeting(0, k, 1), pairs[k]);
            due("who yields in " + k, x.meeting(0, k, 2), (pairs[k] % 8) % 2 == 1 ? pairs[k] % 8 : pairs[k] / 8);
            due("where of " + k, x.meeting(0, k, 3), 5);
        }
        UnderTheRope minutes = laid("b0,0,1,1,2;b50,1,1,1,0;b30,1,1,1,0;b10,1,1,1,0;");
        int[] later = {3, 2, 1};
        for (int k = 0; k < 3; k++) {
            due("by minutes first: " + k, minutes.meeting(0, k, 1), later[k]);
        }
    }

    private static void meetingsThatThereAre() {
        says(12, "BAD: MEETINGS: such as there are");
        UnderTheRope none = laid("b0,0,1,0,0;");
        due("none: meetings", none.meetings(0), 0);
        for (int what = 0; what < 4; what++) {
            due("none: meeting(0, 0, " + what + ")", none.meeting(0, 0, what), BAD);
            due("none: meeting(0, -1, " + what + ")", none.meeting(0, -1, what), BAD);
        }
        UnderTheRope x = laid("b0,0,1,1,0;b10,1,1,1,0;b0,0,1,1,0;b10,1,1,1,0;b0,0,1,1,0;b10,1,1,1,0;");
        for (int what = 0; what < 4; what++) {
            for (int k : new int[] {-1, 9, 10, 15, LEAST, MOST}) {
                due("meeting(0, " + k + ", " + what + ")", x.meeting(0, k, what), BAD);
            }
        }
        for (int what : new int[] {-1, 4, LEAST, MOST}) {
            due("meeting(0, 8, " + what + ")", x.meeting(0, 8, what), BAD);
        }
    }

    private static void meetingsByRule() {
        says(12, "A MEETING by a RULE");
        // By CUSTOM boat 0 yields to boat 1, by SLOW boat 1 does.
        UnderTheRope x = laid("b0,0,3,0,0;b11,1,1,1,0;b15,1,1,0,2;");
        due("by custom", x.meeting(0, 0, 2), 0);
        due("by slow", x.meeting(2, 0, 2), 1);
        // By CUSTOM it stands at 9 up to minute 7, by SLOW it goes on.
        due("by custom: minute", x.meeting(0, 1, 0), 6);
        due("by custom: where", x.meeting(0, 1, 3), 9);
        due("by slow: minute", x.meeting(2, 1, 0), 4);
        due("by slow: where", x.meeting(2, 1, 3), 12);
    }

    private static void whereTheOneThatGoesUpIs() {
        says(12, "where the one that goes UP is");
        due("at the least 0", meetsWaiting(0), 0);
        due("at 1", meetsWaiting(1), 1);
        due("at the most 60", laid("b58,0,3,0,0;b60,1,1,0,0;").meeting(0, 0, 3), 60);
    }

    /** Where one that has not been sent yet is met. */
    private static int meetsWaiting(int cell) {
        UnderTheRope x = laid("b" + cell + ",0,1,0,0;b10,1,1,0,0;");
        x.later(0, 30);
        return x.meeting(0, 0, 3);
    }
}
