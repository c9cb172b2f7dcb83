/** One path along a cut and boats from both ways: who lets his line fall, and what it takes. See README.md. */
public final class UnderTheRope {
    public static final int BAD = -1, NO = -2, FULL = -3, NONE = -4;

    private static final int MOST_LETTERS = 200, LOWEST_LETTER = 32, HIGHEST_LETTER = 126;
    private static final int MOST_BOATS = 6, MOST_NARROWS = 3, MOST_NUMBERS = 5, MOST_MEETINGS = 15;
    private static final int LAST_CELL = 60, LAST_MINUTE = 120, MOST_LATER = 30, MOST_LOAD = 9;
    private static final int MOST_UNDONE = 8, MOST_SEEN = 8, MOST_KEPT = 2;
    private static final int MOST_FALL = 6, TENTHS = 10, MOST_STARTS = 9, LAST_DAY = 9999;
    private static final int UP = 0, DOWN = 1;
    private static final int MAIL = 1, STUBBORN = 2, POLITE = 3;
    private static final int CUSTOM = 0, LIGHT = 1, SLOW = 2, LOSS = 3, RULES = 4;
    private static final int NARROW_MINUTES = 3;
    private static final int PAIR = 8;
    private static final String FIRST_CUT =
        "b0,0,2,3,0;b60,1,2,0,0;b50,1,1,5,1;b10,0,1,9,2;n28,32;y4;h10;l2,4;";

    private final Text text = new Text();
    private final Cut draft = new Cut();
    private final Reader reader = new Reader(text, draft);
    private final Cut cut = new Cut();
    private final Plan plan = new Plan();
    private final Plan trial = new Plan();
    private final Rules rules = new Rules(cut);
    private final Passage passage = new Passage(cut, rules);
    private final Changes changes = new Changes();
    private final Sightings sightings = new Sightings();
    private final Store store = new Store();

    public UnderTheRope() {
        for (int k = 0; k < FIRST_CUT.length(); k++) {
            text.add(FIRST_CUT.charAt(k));
        }
        layText();
        text.empty();
    }

    // ---- cuts

    public int write(int letter) {
        if (!isWithin(letter, LOWEST_LETTER, HIGHEST_LETTER)) {
            return BAD;
        }
        return text.add(letter) ? text.length : FULL;
    }

    public int wipe() {
        return text.empty();
    }

    public int fault() {
        return reader.firstFault();
    }

    public int lay() {
        return layText() ? cut.boats : NO;
    }

    public int boat(int i, int what) {
        if (!isBoat(i)) {
            return BAD;
        }
        switch (what) {
            case 0: return cut.cell[i];
            case 1: return cut.way[i];
            case 2: return cut.pace[i];
            case 3: return plan.loads[i];
            case 4: return cut.kind[i];
            case 5: return plan.delays[i];
            default: return BAD;
        }
    }

    // ---- a day

    public int where(int rule, int i, int minute) {
        if (!isRule(rule) || !isBoat(i) || !isWithin(minute, 0, LAST_MINUTE)) {
            return BAD;
        }
        passage.run(plan, rule, minute);
        return passage.at[i];
    }

    public int there(int rule, int i) {
        if (!isRule(rule) || !isBoat(i)) {
            return BAD;
        }
        passage.run(plan, rule, LAST_MINUTE);
        return passage.arrived[i];
    }

    public int stands(int rule, int i) {
        if (!isRule(rule) || (i != -1 && !isBoat(i))) {
            return BAD;
        }
        int all = passage.run(plan, rule, LAST_MINUTE);
        return i == -1 ? all : passage.made[i];
    }

    public int yields(int rule, int i) {
        if (!isRule(rule) || !isBoat(i)) {
            return BAD;
        }
        passage.run(plan, rule, LAST_MINUTE);
        return passage.yielded[i];
    }

    public int meetings(int rule) {
        if (!isRule(rule)) {
            return BAD;
        }
        passage.run(plan, rule, LAST_MINUTE);
        return passage.met;
    }

    public int meeting(int rule, int k, int what) {
        if (!isRule(rule)) {
            return BAD;
        }
        passage.run(plan, rule, LAST_MINUTE);
        if (!isWithin(k, 0, passage.met - 1)) {
            return BAD;
        }
        switch (what) {
            case 0: return passage.minuteOf[k];
            case 1: return passage.pairOf[k];
            case 2: return passage.yielderOf[k];
            case 3: return passage.placeOf[k];
            default: return BAD;
        }
    }

    // ---- changes

    public int load(int i, int w) {
        if (!isBoat(i) || !isWithin(w, 0, MOST_LOAD)) {
            return BAD;
        }
        int was = plan.loads[i];
        changes.note(i, true, was);
        plan.loads[i] = w;
        return was;
    }

    public int later(int i, int d) {
        if (!isBoat(i) || !isWithin(d, 0, MOST_LATER)) {
            return BAD;
        }
        int was = plan.delays[i];
        changes.note(i, false, was);
        plan.delays[i] = d;
        return was;
    }

    public int undo() {
        return changes.takeBack(plan) ? changes.size : NO;
    }

    // ---- rules

    public int who(int rule, int i, int j) {
        if (!isRule(rule) || !areTwo(i, j)) {
            return BAD;
        }
        if (cut.way[i] == cut.way[j]) {
            return NO;
        }
        return rules.yielder(plan, rule, i, j);
    }

    public int best(int what) {
        if (!isWithin(what, 0, 1)) {
            return BAD;
        }
        int bestRule = leastRule();
        return what == 0 ? bestRule : passage.run(plan, bestRule, LAST_MINUTE);
    }

    public int custom() {
        int least = passage.run(plan, leastRule(), LAST_MINUTE);
        return passage.run(plan, CUSTOM, LAST_MINUTE) - least;
    }

    public int send(int rule, int i, int what) {
        if (!isRule(rule) || !isBoat(i) || !isWithin(what, 0, 1)) {
            return BAD;
        }
        trial.copy(plan);
        trial.delays[i] = 0;
        int bestDelay = 0;
        int least = passage.run(trial, rule, LAST_MINUTE);
        for (int d = 1; d <= MOST_LATER; d++) {
            trial.delays[i] = d;
            int all = passage.run(trial, rule, LAST_MINUTE);
            if (all < least) {
                least = all;
                bestDelay = d;
            }
        }
        return what == 0 ? bestDelay : least;
    }

    public int swap(int rule, int what) {
        if (!isRule(rule) || !isWithin(what, 0, 1)) {
            return BAD;
        }
        int least = passage.run(plan, rule, LAST_MINUTE);
        int bestPair = NONE;
        for (int i = 0; i < cut.boats; i++) {
            for (int j = i + 1; j < cut.boats; j++) {
                int all = standExchanged(rule, i, j);
                if (all < least) {
                    least = all;
                    bestPair = PAIR * i + j;
                }
            }
        }
        return what == 0 || bestPair == NONE ? bestPair : least;
    }

    // ---- lines

    public int fall(int i, int j, int what) {
        if (!areTwo(i, j) || !isWithin(what, 0, 1)) {
            return BAD;
        }
        int needed = minutesToSink(j);
        if (needed > cut.driftMinutes) {
            return NONE;
        }
        return what == 0 ? needed : cut.driftMinutes;
    }

    public int caught(int j, int f, int x, int part) {
        if (!isBoat(j) || !isWithin(f, 0, MOST_FALL) || !isWithin(x, 0, TENTHS) || !isWithin(part, 0, 1)) {
            return BAD;
        }
        int above = waysToSinkLess(minutesToSink(j), f, x);
        int below = power(TENTHS, f);
        int common = commonDivisor(above, below);
        return (part == 0 ? above : below) / Math.max(common, 1);
    }

    public int rests(int i, int j, int what) {
        if (!areTwo(i, j) || !isWithin(what, 0, 1)) {
            return BAD;
        }
        int many = 0;
        int first = NONE;
        for (int way = 0; way < 4; way++) {
            if (isRest(i, j, way)) {
                many++;
                first = first == NONE ? way : first;
            }
        }
        return what == 0 ? many : first;
    }

    // ---- what was seen

    public int seen(int i, int j) {
        if (!areTwo(i, j)) {
            return BAD;
        }
        if (cut.way[i] == cut.way[j]) {
            return NO;
        }
        return sightings.add(i, j) ? sightings.size : FULL;
    }

    public int forget() {
        return sightings.empty();
    }

    public int fits() {
        int bits = 0;
        for (int rule = 0; rule < RULES; rule++) {
            if (fitsSightings(rule)) {
                bits |= 1 << rule;
            }
        }
        return bits;
    }

    // ---- horses, days

    public int starts(int rule, int i) {
        if (!isRule(rule) || !isBoat(i)) {
            return BAD;
        }
        passage.run(plan, rule, LAST_MINUTE);
        return passage.started[i];
    }

    public int bears(int rule, int n) {
        if (!isRule(rule) || !isWithin(n, 0, MOST_STARTS)) {
            return BAD;
        }
        passage.run(plan, rule, LAST_MINUTE);
        int bits = 0;
        for (int i = 0; i < cut.boats; i++) {
            if (passage.started[i] <= n) {
                bits |= 1 << i;
            }
        }
        return bits;
    }

    public int day(int rule, int z, int what) {
        if (!isRule(rule) || !isWithin(z, 0, LAST_DAY) || !isWithin(what, 0, 1)) {
            return BAD;
        }
        trial.draw(z);
        int all = passage.run(trial, rule, LAST_MINUTE);
        return what == 0 ? all : passage.met;
    }

    // ---- kept

    public int keep() {
        return store.add(plan) ? store.size : FULL;
    }

    public int back() {
        if (!store.takeLast(plan)) {
            return NO;
        }
        changes.size = 0;
        return store.size;
    }

    public int count(int what) {
        switch (what) {
            case 0: return cut.boats;
            case 1: return cut.narrows;
            case 2: return sightings.size;
            case 3: return changes.size;
            case 4: return store.size;
            case 5: return text.length;
            default: return BAD;
        }
    }

    // ---- what the calls share

    private static boolean isWithin(int number, int low, int high) {
        return number >= low && number <= high;
    }

    private static boolean isRule(int rule) {
        return isWithin(rule, 0, RULES - 1);
    }

    private boolean isBoat(int i) {
        return isWithin(i, 0, cut.boats - 1);
    }

    private boolean areTwo(int i, int j) {
        return isBoat(i) && isBoat(j) && i != j;
    }

    private boolean layText() {
        if (reader.firstFault() != NONE || draft.boats == 0) {
            return false;
        }
        cut.copy(draft);
        plan.begin(cut);
        changes.size = 0;
        sightings.empty();
        store.size = 0;
        return true;
    }

    private int leastRule() {
        int bestRule = CUSTOM;
        int least = passage.run(plan, CUSTOM, LAST_MINUTE);
        for (int rule = CUSTOM + 1; rule < RULES; rule++) {
            int all = passage.run(plan, rule, LAST_MINUTE);
            if (all < least) {
                least = all;
                bestRule = rule;
            }
        }
        return bestRule;
    }

    private int standExchanged(int rule, int i, int j) {
        trial.copy(plan);
        trial.loads[i] = plan.loads[j];
        trial.loads[j] = plan.loads[i];
        return passage.run(trial, rule, LAST_MINUTE);
    }

    private int minutesToSink(int j) {
        int depth = plan.loads[j] + 1;
        int feet = Math.max(cut.sinkFeet, 1);
        return (depth + feet - 1) / feet;
    }

    /** In how many of the 10^f ways a line sinks in fewer than so many of f minutes. */
    private static int waysToSinkLess(int needed, int f, int x) {
        int ways = 0;
        int choices = 1;
        for (int sunk = 0; sunk <= f && sunk < needed; sunk++) {
            ways += choices * power(x, sunk) * power(TENTHS - x, f - sunk);
            choices = choices * (f - sunk) / (sunk + 1);
        }
        return ways;
    }

    private static int power(int base, int exponent) {
        int product = 1;
        for (int k = 0; k < exponent; k++) {
            product *= base;
        }
        return product;
    }

    private static int commonDivisor(int a, int b) {
        int greater = Math.max(a, b);
        int smaller = Math.min(a, b);
        // Euclid's steps on numbers up to 10^6 are fewer than 64.
        for (int step = 0; step < 64 && smaller > 0; step++) {
            int rest = greater % smaller;
            greater = smaller;
            smaller = rest;
        }
        return greater;
    }

    /** Of the four ways: 0 both yield, 1 i alone does, 2 j alone does, 3 both hold out. */
    private boolean isRest(int i, int j, int way) {
        boolean firstYields = way == 0 || way == 1;
        boolean otherYields = way == 0 || way == 2;
        return standChoosing(i, firstYields, otherYields) <= standChoosing(i, !firstYields, otherYields)
            && standChoosing(j, otherYields, firstYields) <= standChoosing(j, !otherYields, firstYields);
    }

    private int standChoosing(int i, boolean yielding, boolean otherYields) {
        if (yielding) {
            return cut.yieldMinutes + plan.loads[i];
        }
        return otherYields ? 0 : cut.heldMinutes;
    }

    private boolean fitsSightings(int rule) {
        for (int k = 0; k < sightings.size; k++) {
            int yielder = sightings.yielder[k];
            if (rules.yielder(plan, rule, yielder, sightings.other[k]) != yielder) {
                return false;
            }
        }
        return true;
    }

    /** THE TEXT. */
    private static final class Text {
        final int[] letters = new int[MOST_LETTERS];
        int length = 0;

        boolean add(int letter) {
            if (length >= MOST_LETTERS) {
                return false;
            }
            letters[length] = letter;
            length++;
            return true;
        }

        int empty() {
            int was = length;
            length = 0;
            return was;
        }

        int letterAt(int place) {
            return place >= 0 && place < length ? letters[place] : NONE;
        }
    }

    /** What a TEXT without FAULT tells. */
    private static final class Cut {
        int boats;
        int narrows;
        int yieldMinutes;
        int heldMinutes;
        int sinkFeet;
        int driftMinutes;
        final int[] cell = new int[MOST_BOATS];
        final int[] way = new int[MOST_BOATS];
        final int[] pace = new int[MOST_BOATS];
        final int[] toldLoad = new int[MOST_BOATS];
        final int[] kind = new int[MOST_BOATS];
        final int[] narrowFrom = new int[MOST_NARROWS];
        final int[] narrowTo = new int[MOST_NARROWS];

        void clear() {
            boats = 0;
            narrows = 0;
            yieldMinutes = 4;
            heldMinutes = 10;
            sinkFeet = 2;
            driftMinutes = 4;
        }

        void copy(Cut from) {
            boats = from.boats;
            narrows = from.narrows;
            yieldMinutes = from.yieldMinutes;
            heldMinutes = from.heldMinutes;
            sinkFeet = from.sinkFeet;
            driftMinutes = from.driftMinutes;
            System.arraycopy(from.cell, 0, cell, 0, MOST_BOATS);
            System.arraycopy(from.way, 0, way, 0, MOST_BOATS);
            System.arraycopy(from.pace, 0, pace, 0, MOST_BOATS);
            System.arraycopy(from.toldLoad, 0, toldLoad, 0, MOST_BOATS);
            System.arraycopy(from.kind, 0, kind, 0, MOST_BOATS);
            System.arraycopy(from.narrowFrom, 0, narrowFrom, 0, MOST_NARROWS);
            System.arraycopy(from.narrowTo, 0, narrowTo, 0, MOST_NARROWS);
        }

        boolean isNarrow(int place) {
            for (int k = 0; k < narrows; k++) {
                if (isWithin(place, narrowFrom[k], narrowTo[k])) {
                    return true;
                }
            }
            return false;
        }
    }

    /** Reads THE TEXT into a Cut, as far as it is without FAULT. */
    private static final class Reader {
        final Text text;
        final Cut cut;
        final int[] numbers = new int[MOST_NUMBERS];

        Reader(Text text, Cut cut) {
            this.text = text;
            this.cut = cut;
        }

        int firstFault() {
            cut.clear();
            int start = 0;
            for (int item = 0; item < MOST_LETTERS && start < text.length; item++) {
                int next = readItem(start);
                if (next == NONE) {
                    return start;
                }
                start = next;
            }
            return NONE;
        }

        /** Where the next ITEM begins; NONE if this one is not as told. */
        int readItem(int start) {
            int letter = text.letterAt(start);
            int wanted = numbersOf(letter);
            int place = start + 1;
            for (int k = 0; k < wanted; k++) {
                place = readNumber(place, k, k + 1 < wanted ? ',' : ';');
                if (place == NONE) {
                    return NONE;
                }
            }
            return takeItem(letter) ? place : NONE;
        }

        static int numbersOf(int letter) {
            switch (letter) {
                case 'b': return 5;
                case 'n': return 2;
                case 'y': return 1;
                case 'h': return 1;
                case 'l': return 2;
                default: return 0;
            }
        }

        /** Where it goes on behind the number and its mark; NONE if they are not there. */
        int readNumber(int place, int k, int mark) {
            int figure = figureAt(place);
            if (figure == NONE || k < 0 || k >= MOST_NUMBERS) {
                return NONE;
            }
            int number = figure;
            int behind = place + 1;
            int second = figureAt(behind);
            if (second != NONE) {
                number = 10 * number + second;
                behind++;
            }
            numbers[k] = number;
            return text.letterAt(behind) == mark ? behind + 1 : NONE;
        }

        int figureAt(int place) {
            int letter = text.letterAt(place);
            return isWithin(letter, '0', '9') ? letter - '0' : NONE;
        }

        boolean takeItem(int letter) {
            switch (letter) {
                case 'b': return takeBoat();
                case 'n': return takeNarrow();
                case 'y': return takeYield();
                case 'h': return takeHeld();
                case 'l': return takeLine();
                default: return false;
            }
        }

        boolean takeBoat() {
            int i = cut.boats;
            if (i >= MOST_BOATS || !isWithin(numbers[0], 0, LAST_CELL) || !isWithin(numbers[1], UP, DOWN)
                || !isWithin(numbers[2], 1, 3) || !isWithin(numbers[3], 0, MOST_LOAD)
                || !isWithin(numbers[4], 0, POLITE)) {
                return false;
            }
            cut.cell[i] = numbers[0];
            cut.way[i] = numbers[1];
            cut.pace[i] = numbers[2];
            cut.toldLoad[i] = numbers[3];
            cut.kind[i] = numbers[4];
            cut.boats = i + 1;
            return true;
        }

        boolean takeNarrow() {
            int k = cut.narrows;
            if (k >= MOST_NARROWS || numbers[0] > numbers[1] || numbers[1] > LAST_CELL) {
                return false;
            }
            cut.narrowFrom[k] = numbers[0];
            cut.narrowTo[k] = numbers[1];
            cut.narrows = k + 1;
            return true;
        }

        boolean takeYield() {
            cut.yieldMinutes = numbers[0];
            return isWithin(numbers[0], 1, 9);
        }

        boolean takeHeld() {
            cut.heldMinutes = numbers[0];
            return isWithin(numbers[0], 1, 30);
        }

        boolean takeLine() {
            cut.sinkFeet = numbers[0];
            cut.driftMinutes = numbers[1];
            return isWithin(numbers[0], 1, 5) && isWithin(numbers[1], 1, 9);
        }
    }

    /** LOADS, and how much later BOATS are sent. */
    private static final class Plan {
        final int[] loads = new int[MOST_BOATS];
        final int[] delays = new int[MOST_BOATS];

        void begin(Cut cut) {
            for (int i = 0; i < MOST_BOATS; i++) {
                loads[i] = cut.toldLoad[i];
                delays[i] = 0;
            }
        }

        void copy(Plan from) {
            System.arraycopy(from.loads, 0, loads, 0, MOST_BOATS);
            System.arraycopy(from.delays, 0, delays, 0, MOST_BOATS);
        }

        void draw(int z) {
            for (int i = 0; i < MOST_BOATS; i++) {
                // x goes up to some 79 million, so its square needs a long.
                long x = 7919L * z + 6151L * i + 1;
                int drawn = (int) (x * x % 65521);
                delays[i] = drawn % (MOST_LATER + 1);
                loads[i] = drawn / 64 % (MOST_LOAD + 1);
            }
        }
    }

    /** Who yields, by KIND and RULE. */
    private static final class Rules {
        final Cut cut;

        Rules(Cut cut) {
            this.cut = cut;
        }

        /** Of two BOATS of unlike ways; NONE if they are HELD. */
        int yielder(Plan plan, int rule, int i, int j) {
            boolean firstHard = cut.kind[i] == STUBBORN;
            boolean otherHard = cut.kind[j] == STUBBORN;
            if (firstHard && otherHard) {
                return NONE;
            }
            if (firstHard || otherHard) {
                return firstHard ? j : i;
            }
            boolean firstSoft = cut.kind[i] == POLITE;
            if (firstSoft != (cut.kind[j] == POLITE)) {
                return firstSoft ? i : j;
            }
            int first = weight(plan, rule, i);
            int other = weight(plan, rule, j);
            // Equal losses come of equal LOADS alone, so LOSS too goes on to CUSTOM, as LIGHT would.
            if (first == other) {
                return byCustom(plan, i, j);
            }
            return first < other ? i : j;
        }

        /** What a RULE looks at: the one for whom it is less yields. */
        int weight(Plan plan, int rule, int i) {
            switch (rule) {
                case LIGHT: return plan.loads[i];
                case SLOW: return cut.pace[i];
                case LOSS: return (cut.yieldMinutes + plan.loads[i]) * (plan.loads[i] + 1);
                default: return 0;
            }
        }

        int byCustom(Plan plan, int i, int j) {
            boolean firstMail = cut.kind[i] == MAIL;
            if (firstMail != (cut.kind[j] == MAIL)) {
                return firstMail ? j : i;
            }
            boolean firstEmpty = plan.loads[i] == 0;
            if (firstEmpty != (plan.loads[j] == 0)) {
                return firstEmpty ? i : j;
            }
            return cut.way[i] == DOWN ? i : j;
        }
    }

    /** The minutes of one day by a RULE; its rows tell the latest run. */
    private static final class Passage {
        final Cut cut;
        final Rules rules;
        final int[] before = new int[MOST_BOATS];
        final int[] at = new int[MOST_BOATS];
        final int[] standing = new int[MOST_BOATS];
        final int[] arrived = new int[MOST_BOATS];
        final int[] made = new int[MOST_BOATS];
        final int[] yielded = new int[MOST_BOATS];
        final int[] started = new int[MOST_BOATS];
        int allMade;
        int underWay;
        int met;
        final int[] minuteOf = new int[MOST_MEETINGS];
        final int[] pairOf = new int[MOST_MEETINGS];
        final int[] yielderOf = new int[MOST_MEETINGS];
        final int[] placeOf = new int[MOST_MEETINGS];

        Passage(Cut cut, Rules rules) {
            this.cut = cut;
            this.rules = rules;
        }

        /** How many minutes all together are made to stand. */
        int run(Plan plan, int rule, int lastMinute) {
            begin(plan);
            for (int minute = 1; minute <= lastMinute && underWay > 0; minute++) {
                goOn();
                meetAll(plan, rule, minute);
                arrive(minute);
            }
            return allMade;
        }

        void begin(Plan plan) {
            met = 0;
            allMade = 0;
            underWay = cut.boats;
            for (int i = 0; i < cut.boats; i++) {
                at[i] = cut.cell[i];
                standing[i] = plan.delays[i];
                arrived[i] = NONE;
                made[i] = 0;
                yielded[i] = 0;
                started[i] = isAtEnd(i) ? 0 : 1;
            }
            arrive(0);
        }

        void goOn() {
            for (int i = 0; i < cut.boats; i++) {
                before[i] = at[i];
                if (arrived[i] != NONE) {
                    continue;
                }
                if (standing[i] > 0) {
                    standing[i]--;
                } else if (cut.way[i] == UP) {
                    at[i] = Math.min(at[i] + cut.pace[i], LAST_CELL);
                } else {
                    at[i] = Math.max(at[i] - cut.pace[i], 0);
                }
            }
        }

        void meetAll(Plan plan, int rule, int minute) {
            for (int i = 0; i < cut.boats; i++) {
                for (int j = i + 1; j < cut.boats; j++) {
                    if (cut.way[i] != cut.way[j] && doMeet(i, j)) {
                        meet(plan, rule, minute, i, j);
                    }
                }
            }
        }

        boolean doMeet(int i, int j) {
            if (arrived[i] != NONE || arrived[j] != NONE) {
                return false;
            }
            int up = cut.way[i] == UP ? i : j;
            int down = cut.way[i] == UP ? j : i;
            return before[up] < before[down] && at[up] >= at[down];
        }

        void meet(Plan plan, int rule, int minute, int i, int j) {
            int yielder = rules.yielder(plan, rule, i, j);
            if (yielder == NONE) {
                int minutes = cut.heldMinutes + (cut.isNarrow(at[i]) || cut.isNarrow(at[j]) ? NARROW_MINUTES : 0);
                makeStand(i, minutes);
                makeStand(j, minutes);
            } else {
                int more = cut.isNarrow(at[yielder]) ? NARROW_MINUTES : 0;
                makeStand(yielder, cut.yieldMinutes + plan.loads[yielder] + more);
                makeStand(yielder == i ? j : i, more);
                yielded[yielder]++;
            }
            noteMeeting(minute, PAIR * i + j, yielder, at[cut.way[i] == UP ? i : j]);
        }

        void makeStand(int i, int minutes) {
            if (minutes <= 0) {
                return;
            }
            if (standing[i] == 0 && !isAtEnd(i)) {
                started[i]++;
            }
            standing[i] += minutes;
            made[i] += minutes;
            allMade += minutes;
        }

        void noteMeeting(int minute, int pair, int yielder, int place) {
            // Two boats pass one another once, so the row holds every pair.
            if (met >= MOST_MEETINGS) {
                return;
            }
            minuteOf[met] = minute;
            pairOf[met] = pair;
            yielderOf[met] = yielder;
            placeOf[met] = place;
            met++;
        }

        void arrive(int minute) {
            for (int i = 0; i < cut.boats; i++) {
                if (arrived[i] == NONE && isAtEnd(i)) {
                    arrived[i] = minute;
                    underWay--;
                }
            }
        }

        boolean isAtEnd(int i) {
            return at[i] == (cut.way[i] == UP ? LAST_CELL : 0);
        }
    }

    /** What can be UNDONE, the latest last. */
    private static final class Changes {
        final int[] whose = new int[MOST_UNDONE];
        final boolean[] ofLoad = new boolean[MOST_UNDONE];
        final int[] was = new int[MOST_UNDONE];
        int size = 0;

        void note(int i, boolean isLoad, int value) {
            if (size >= MOST_UNDONE) {
                dropOldest();
            }
            whose[size] = i;
            ofLoad[size] = isLoad;
            was[size] = value;
            size++;
        }

        void dropOldest() {
            for (int k = 1; k < MOST_UNDONE; k++) {
                whose[k - 1] = whose[k];
                ofLoad[k - 1] = ofLoad[k];
                was[k - 1] = was[k];
            }
            size = MOST_UNDONE - 1;
        }

        boolean takeBack(Plan plan) {
            if (size <= 0) {
                return false;
            }
            size--;
            if (ofLoad[size]) {
                plan.loads[whose[size]] = was[size];
            } else {
                plan.delays[whose[size]] = was[size];
            }
            return true;
        }
    }

    /** What was SEEN. */
    private static final class Sightings {
        final int[] yielder = new int[MOST_SEEN];
        final int[] other = new int[MOST_SEEN];
        int size = 0;

        boolean add(int i, int j) {
            if (size >= MOST_SEEN) {
                return false;
            }
            yielder[size] = i;
            other[size] = j;
            size++;
            return true;
        }

        int empty() {
            int was = size;
            size = 0;
            return was;
        }
    }

    /** What is KEPT, the latest last. */
    private static final class Store {
        final int[] loads = new int[MOST_KEPT * MOST_BOATS];
        final int[] delays = new int[MOST_KEPT * MOST_BOATS];
        int size = 0;

        boolean add(Plan plan) {
            if (size >= MOST_KEPT) {
                return false;
            }
            System.arraycopy(plan.loads, 0, loads, size * MOST_BOATS, MOST_BOATS);
            System.arraycopy(plan.delays, 0, delays, size * MOST_BOATS, MOST_BOATS);
            size++;
            return true;
        }

        boolean takeLast(Plan plan) {
            if (size <= 0) {
                return false;
            }
            size--;
            System.arraycopy(loads, size * MOST_BOATS, plan.loads, 0, MOST_BOATS);
            System.arraycopy(delays, size * MOST_BOATS, plan.delays, 0, MOST_BOATS);
            return true;
        }
    }
}
