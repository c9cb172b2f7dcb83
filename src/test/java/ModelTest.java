import java.math.BigInteger;
import java.util.ArrayDeque;
import java.util.ArrayList;
import java.util.Arrays;
import java.util.Deque;
import java.util.List;
import java.util.Random;
import java.util.regex.Matcher;
import java.util.regex.Pattern;

/** Random runs of calls, against a second model of the document that shares nothing with the program. */
public final class ModelTest {
    private static final int BAD = -1, NO = -2, FULL = -3, NONE = -4;
    private static final int RUNS = 600, CALLS = 512;
    private static final String FIRST = "b0,0,2,3,0;b60,1,2,0,0;b50,1,1,5,1;b10,0,1,9,2;n28,32;y4;h10;l2,4;";

    public static void main(String[] args) {
        int wrong = 0;
        for (int run = 0; run < RUNS && wrong < 10; run++) {
            wrong += compare(run);
        }
        System.out.println(wrong == 0 ? "the program and the model agree" : "the program and the model differ");
        if (wrong != 0) {
            System.exit(1);
        }
    }

    private static int compare(int run) {
        Random random = new Random(run);
        UnderTheRope program = new UnderTheRope();
        Model model = new Model();
        Deque<int[]> planned = new ArrayDeque<>();
        for (int k = 0; k < CALLS; k++) {
            boolean opens = k == 0 && run % 8 != 0;
            if (planned.isEmpty() && (opens || random.nextInt(120) == 0)) {
                planText(random, planned);
            }
            int[] call = planned.isEmpty() ? randomCall(random, model) : planned.poll();
            int due = answer(model, call);
            int got = ask(program, call);
            if (due != got) {
                System.out.println("run " + run + ", call " + k + " " + Arrays.toString(call) + " of " + model.tell()
                    + ": the program says " + got + ", the model " + due);
                return 1;
            }
        }
        return 0;
    }

    private static void planText(Random random, Deque<int[]> planned) {
        if (random.nextInt(8) != 0) {
            planned.add(new int[] {1, 0, 0, 0, 0});
        }
        for (char letter : randomText(random).toCharArray()) {
            planned.add(new int[] {0, letter, 0, 0, 0});
        }
        planned.add(new int[] {2, 0, 0, 0, 0});
        planned.add(new int[] {3, 0, 0, 0, 0});
    }

    private static String randomText(Random random) {
        StringBuilder text = new StringBuilder();
        int boats = 1 + random.nextInt(6);
        boolean stubborn = random.nextInt(3) == 0;
        for (int i = 0; i < boats; i++) {
            int way = random.nextInt(2);
            int cell = random.nextInt(3) == 0 ? random.nextInt(61) : way == 0 ? random.nextInt(25) : 60 - random.nextInt(25);
            int load = random.nextInt(3) == 0 ? random.nextInt(3) : random.nextInt(10);
            int kind = stubborn ? random.nextInt(4) : random.nextInt(2);
            text.append("b" + cell + "," + way + "," + (1 + random.nextInt(3)) + "," + load + "," + kind + ";");
        }
        int narrows = random.nextInt(4);
        for (int k = 0; k < narrows; k++) {
            int from = random.nextInt(61);
            text.append("n" + from + "," + Math.min(60, from + random.nextInt(12)) + ";");
        }
        if (random.nextBoolean()) {
            text.append("y" + (1 + random.nextInt(9)) + ";");
        }
        if (random.nextBoolean()) {
            text.append("h" + (1 + random.nextInt(30)) + ";");
        }
        if (random.nextBoolean()) {
            text.append("l" + (1 + random.nextInt(5)) + "," + (1 + random.nextInt(9)) + ";");
        }
        if (random.nextInt(6) == 0) {
            String signs = "0123456789,;bnyhl x";
            text.setCharAt(random.nextInt(text.length()), signs.charAt(random.nextInt(signs.length())));
        }
        return text.toString();
    }

    /** A call's number and up to four arguments, now and then out of what is told. */
    private static int[] randomCall(Random random, Model model) {
        int name = random.nextInt(31);
        if ((name == 1 || name == 3) && random.nextInt(6) != 0) {
            // Seldom, so that a cut stands long enough for changes to pile up.
            name = 10;
        }
        int rule = odd(random, 4);
        int i = odd(random, model.boats.size());
        int j = odd(random, model.boats.size());
        int what = odd(random, 2);
        switch (name) {
            case 0: return new int[] {0, random.nextInt(140), 0, 0, 0};
            case 4: return new int[] {4, i, odd(random, 6), 0, 0};
            case 5: return new int[] {5, rule, i, odd(random, 121), 0};
            case 10: return new int[] {10, rule, odd(random, 9), odd(random, 4), 0};
            case 11: return new int[] {11, i, odd(random, 10), 0, 0};
            case 12: return new int[] {12, i, odd(random, 31), 0, 0};
            case 14: return new int[] {14, rule, i, j, 0};
            case 15: return new int[] {15, what, 0, 0, 0};
            case 17: return new int[] {17, rule, i, what, 0};
            case 18: return new int[] {18, rule, what, 0, 0};
            case 19: return new int[] {19, i, j, what, 0};
            case 20: return new int[] {20, i, odd(random, 7), odd(random, 11), what};
            case 21: return new int[] {21, i, j, what, 0};
            case 22: return new int[] {22, i, j, 0, 0};
            case 26: return new int[] {26, rule, odd(random, 10), 0, 0};
            case 27: return new int[] {27, rule, odd(random, 10000), what, 0};
            case 30: return new int[] {30, odd(random, 6), 0, 0, 0};
            default: return new int[] {name, rule, i, 0, 0};
        }
    }

    private static int odd(Random random, int bound) {
        return random.nextInt(12) == 0 ? random.nextInt(bound + 4) - 2 : random.nextInt(bound);
    }

    private static int ask(UnderTheRope x, int[] c) {
        switch (c[0]) {
            case 0: return x.write(c[1]);
            case 1: return x.wipe();
            case 2: return x.fault();
            case 3: return x.lay();
            case 4: return x.boat(c[1], c[2]);
            case 5: return x.where(c[1], c[2], c[3]);
            case 6: return x.there(c[1], c[2]);
            case 7: return x.stands(c[1], c[2]);
            case 8: return x.yields(c[1], c[2]);
            case 9: return x.meetings(c[1]);
            case 10: return x.meeting(c[1], c[2], c[3]);
            case 11: return x.load(c[1], c[2]);
            case 12: return x.later(c[1], c[2]);
            case 13: return x.undo();
            case 14: return x.who(c[1], c[2], c[3]);
            case 15: return x.best(c[1]);
            case 16: return x.custom();
            case 17: return x.send(c[1], c[2], c[3]);
            case 18: return x.swap(c[1], c[2]);
            case 19: return x.fall(c[1], c[2], c[3]);
            case 20: return x.caught(c[1], c[2], c[3], c[4]);
            case 21: return x.rests(c[1], c[2], c[3]);
            case 22: return x.seen(c[1], c[2]);
            case 23: return x.forget();
            case 24: return x.fits();
            case 25: return x.starts(c[1], c[2]);
            case 26: return x.bears(c[1], c[2]);
            case 27: return x.day(c[1], c[2], c[3]);
            case 28: return x.keep();
            case 29: return x.back();
            default: return x.count(c[1]);
        }
    }

    private static int answer(Model m, int[] c) {
        switch (c[0]) {
            case 0: return m.write(c[1]);
            case 1: return m.wipe();
            case 2: return m.fault();
            case 3: return m.lay();
            case 4: return m.isBoat(c[1]) && c[2] >= 0 && c[2] < 6 ? m.boats.get(c[1]).told()[c[2]] : BAD;
            case 5: return m.bad(c[1], c[2]) || c[3] < 0 || c[3] > 120 ? BAD : m.journey(c[1]).track.get(c[3])[c[2]];
            case 6: return m.bad(c[1], c[2]) ? BAD : m.journey(c[1]).arrival(c[2]);
            case 7: return c[2] == -1 && !m.badRule(c[1]) ? m.journey(c[1]).total()
                : m.bad(c[1], c[2]) ? BAD : m.journey(c[1]).stood[c[2]];
            case 8: return m.bad(c[1], c[2]) ? BAD : m.journey(c[1]).yieldsOf(c[2]);
            case 9: return m.badRule(c[1]) ? BAD : m.journey(c[1]).meetings.size();
            case 10: return m.meeting(c[1], c[2], c[3]);
            case 11: return m.change(c[1], c[2], 9, true);
            case 12: return m.change(c[1], c[2], 30, false);
            case 13: return m.undo();
            case 14: return m.badRule(c[1]) || m.badPair(c[2], c[3]) ? BAD : m.oneWay(c[2], c[3]) ? NO
                : m.yielder(m.boats, c[1], c[2], c[3]);
            case 15: return c[1] < 0 || c[1] > 1 ? BAD : m.best()[c[1]];
            case 16: return m.journey(0).total() - m.best()[1];
            case 17: return m.bad(c[1], c[2]) || c[3] < 0 || c[3] > 1 ? BAD : m.send(c[1], c[2])[c[3]];
            case 18: return m.badRule(c[1]) || c[2] < 0 || c[2] > 1 ? BAD : m.swap(c[1])[c[2]];
            case 19: return m.badPair(c[1], c[2]) || c[3] < 0 || c[3] > 1 ? BAD : m.fall(c[2])[c[3]];
            case 20: return m.caught(c[1], c[2], c[3], c[4]);
            case 21: return m.badPair(c[1], c[2]) || c[3] < 0 || c[3] > 1 ? BAD : m.rests(c[1], c[2])[c[3]];
            case 22: return m.see(c[1], c[2]);
            case 23: return m.forget();
            case 24: return m.fits();
            case 25: return m.bad(c[1], c[2]) ? BAD : m.journey(c[1]).starts[c[2]];
            case 26: return m.bears(c[1], c[2]);
            case 27: return m.day(c[1], c[2], c[3]);
            case 28: return m.keep();
            case 29: return m.back();
            default: return m.count(c[1]);
        }
    }

    private record Boat(int cell, int way, int pace, int load, int kind, int later) {
        int[] told() {
            return new int[] {cell, way, pace, load, kind, later};
        }

        Boat laden(int w) {
            return new Boat(cell, way, pace, w, kind, later);
        }

        Boat sent(int d) {
            return new Boat(cell, way, pace, load, kind, d);
        }

        int end() {
            return way == 0 ? 60 : 0;
        }
    }

    private record Told(int fault, List<Boat> boats, List<int[]> narrows, int y, int h, int l, int r) {
    }

    private record Meeting(int minute, int i, int j, int yielder, int place) {
    }

    /** Each boat's cell by minute is held as a whole track, and each stand as a row of minutes yet to pass. */
    private static final class Journey {
        final List<int[]> track = new ArrayList<>();
        final List<Meeting> meetings = new ArrayList<>();
        final List<Boat> boats;
        final int[] stood;
        final int[] starts;

        Journey(Model m, List<Boat> boats, int rule) {
            this.boats = boats;
            int n = boats.size();
            stood = new int[n];
            starts = new int[n];
            int[] left = new int[n];
            int[] cells = new int[n];
            for (int i = 0; i < n; i++) {
                cells[i] = boats.get(i).cell;
                left[i] = boats.get(i).later;
                starts[i] = cells[i] == boats.get(i).end() ? 0 : 1;
            }
            track.add(cells);
            for (int minute = 1; minute <= 120; minute++) {
                int[] old = track.get(minute - 1);
                int[] now = old.clone();
                for (int i = 0; i < n; i++) {
                    Boat b = boats.get(i);
                    if (old[i] == b.end()) {
                        continue;
                    }
                    if (left[i] > 0) {
                        left[i]--;
                        continue;
                    }
                    int to = b.way == 0 ? old[i] + b.pace : old[i] - b.pace;
                    now[i] = Math.max(0, Math.min(60, to));
                }
                track.add(now);
                for (int i = 0; i < n; i++) {
                    for (int j = i + 1; j < n; j++) {
                        if (boats.get(i).way == boats.get(j).way) {
                            continue;
                        }
                        if (old[i] == boats.get(i).end() || old[j] == boats.get(j).end()) {
                            continue;
                        }
                        int u = boats.get(i).way == 0 ? i : j;
                        int d = i + j - u;
                        if (!(old[u] < old[d]) || now[u] < now[d]) {
                            continue;
                        }
                        int who = m.yielder(boats, rule, i, j);
                        boolean tight = who == NONE ? m.narrow(now[i]) || m.narrow(now[j]) : m.narrow(now[who]);
                        for (int b : new int[] {i, j}) {
                            int minutes = who == NONE ? m.told.h : who == b ? m.told.y + boats.get(b).load : 0;
                            minutes += tight ? 3 : 0;
                            if (minutes > 0 && left[b] == 0 && now[b] != boats.get(b).end()) {
                                starts[b]++;
                            }
                            left[b] += minutes;
                            stood[b] += minutes;
                        }
                        meetings.add(new Meeting(minute, i, j, who, now[u]));
                    }
                }
            }
        }

        int total() {
            return Arrays.stream(stood).sum();
        }

        int arrival(int i) {
            for (int minute = 0; minute <= 120; minute++) {
                if (track.get(minute)[i] == boats.get(i).end()) {
                    return minute;
                }
            }
            return NONE;
        }

        int yieldsOf(int i) {
            return (int) meetings.stream().filter(x -> x.yielder == i).count();
        }
    }

    private static final class Model {
        private static final Pattern ITEM = Pattern.compile(
            "b(\\d\\d?),(\\d\\d?),(\\d\\d?),(\\d\\d?),(\\d\\d?);|n(\\d\\d?),(\\d\\d?);|y(\\d\\d?);|h(\\d\\d?);|l(\\d\\d?),(\\d\\d?);");
        final StringBuilder text = new StringBuilder();
        Told told = parse(FIRST);
        List<Boat> boats = new ArrayList<>(told.boats);
        final List<List<Boat>> before = new ArrayList<>();
        final List<List<Boat>> kept = new ArrayList<>();
        final List<int[]> seen = new ArrayList<>();

        String tell() {
            return boats + " y" + told.y + " h" + told.h + " text " + text;
        }

        static Told parse(String text) {
            List<Boat> boats = new ArrayList<>();
            List<int[]> narrows = new ArrayList<>();
            int[] last = {4, 10, 2, 4};
            int place = 0;
            Matcher item = ITEM.matcher(text);
            while (place < text.length()) {
                item.region(place, text.length());
                if (!item.lookingAt() || !take(item, boats, narrows, last)) {
                    return new Told(place, boats, narrows, 0, 0, 0, 0);
                }
                place = item.end();
            }
            return new Told(NONE, boats, narrows, last[0], last[1], last[2], last[3]);
        }

        static boolean take(Matcher item, List<Boat> boats, List<int[]> narrows, int[] last) {
            int[] g = new int[12];
            for (int k = 1; k <= 11; k++) {
                g[k] = item.group(k) == null ? -1 : Integer.parseInt(item.group(k));
            }
            if (g[1] >= 0) {
                boats.add(new Boat(g[1], g[2], g[3], g[4], g[5], 0));
                return boats.size() <= 6 && g[1] <= 60 && g[2] <= 1 && g[3] >= 1 && g[3] <= 3 && g[4] <= 9 && g[5] <= 3;
            }
            if (g[6] >= 0) {
                narrows.add(new int[] {g[6], g[7]});
                return narrows.size() <= 3 && g[6] <= g[7] && g[7] <= 60;
            }
            if (g[8] >= 0) {
                last[0] = g[8];
                return g[8] >= 1 && g[8] <= 9;
            }
            if (g[9] >= 0) {
                last[1] = g[9];
                return g[9] >= 1 && g[9] <= 30;
            }
            last[2] = g[10];
            last[3] = g[11];
            return g[10] >= 1 && g[10] <= 5 && g[11] >= 1 && g[11] <= 9;
        }

        boolean badRule(int rule) {
            return rule < 0 || rule > 3;
        }

        boolean isBoat(int i) {
            return i >= 0 && i < boats.size();
        }

        boolean bad(int rule, int i) {
            return badRule(rule) || !isBoat(i);
        }

        boolean badPair(int i, int j) {
            return !isBoat(i) || !isBoat(j) || i == j;
        }

        boolean oneWay(int i, int j) {
            return boats.get(i).way == boats.get(j).way;
        }

        boolean narrow(int cell) {
            return told.narrows.stream().anyMatch(n -> n[0] <= cell && cell <= n[1]);
        }

        int write(int letter) {
            if (letter < 32 || letter > 126) {
                return BAD;
            }
            if (text.length() == 200) {
                return FULL;
            }
            return text.append((char) letter).length();
        }

        int wipe() {
            int was = text.length();
            text.setLength(0);
            return was;
        }

        int fault() {
            return parse(text.toString()).fault;
        }

        int lay() {
            Told next = parse(text.toString());
            if (next.fault != NONE || next.boats.isEmpty()) {
                return NO;
            }
            told = next;
            boats = new ArrayList<>(next.boats);
            before.clear();
            kept.clear();
            seen.clear();
            return boats.size();
        }

        Journey journey(int rule) {
            return new Journey(this, boats, rule);
        }

        int yielder(List<Boat> all, int rule, int i, int j) {
            Boat a = all.get(i);
            Boat b = all.get(j);
            if (a.kind == 2 || b.kind == 2) {
                return a.kind == b.kind ? NONE : a.kind == 2 ? j : i;
            }
            if (a.kind == 3 ^ b.kind == 3) {
                return a.kind == 3 ? i : j;
            }
            int order = 0;
            if (rule == 3) {
                order = Integer.compare((told.y + a.load) * (a.load + 1), (told.y + b.load) * (b.load + 1));
            }
            if (rule == 1 || rule == 3 && order == 0) {
                order = Integer.compare(a.load, b.load);
            }
            if (rule == 2) {
                order = Integer.compare(a.pace, b.pace);
            }
            if (order == 0) {
                order = Boolean.compare(a.kind == 1, b.kind == 1);
            }
            if (order == 0) {
                order = Boolean.compare(a.load > 0, b.load > 0);
            }
            if (order == 0) {
                order = a.way == 1 ? -1 : 1;
            }
            return order < 0 ? i : j;
        }

        int meeting(int rule, int k, int what) {
            if (badRule(rule) || what < 0 || what > 3) {
                return BAD;
            }
            List<Meeting> all = journey(rule).meetings;
            if (k < 0 || k >= all.size()) {
                return BAD;
            }
            Meeting x = all.get(k);
            return new int[] {x.minute, 8 * x.i + x.j, x.yielder, x.place}[what];
        }

        int change(int i, int to, int most, boolean load) {
            if (!isBoat(i) || to < 0 || to > most) {
                return BAD;
            }
            before.add(new ArrayList<>(boats));
            if (before.size() > 8) {
                before.remove(0);
            }
            Boat was = boats.get(i);
            boats.set(i, load ? was.laden(to) : was.sent(to));
            return load ? was.load : was.later;
        }

        int undo() {
            if (before.isEmpty()) {
                return NO;
            }
            boats = before.remove(before.size() - 1);
            return before.size();
        }

        int[] best() {
            int[] found = {0, journey(0).total()};
            for (int rule = 1; rule < 4; rule++) {
                int all = journey(rule).total();
                if (all < found[1]) {
                    found = new int[] {rule, all};
                }
            }
            return found;
        }

        int[] send(int rule, int i) {
            int[] found = null;
            for (int d = 0; d <= 30; d++) {
                List<Boat> other = new ArrayList<>(boats);
                other.set(i, boats.get(i).sent(d));
                int all = new Journey(this, other, rule).total();
                if (found == null || all < found[1]) {
                    found = new int[] {d, all};
                }
            }
            return found;
        }

        int[] swap(int rule) {
            int now = journey(rule).total();
            int[] found = {NONE, NONE};
            for (int i = 0; i < boats.size(); i++) {
                for (int j = i + 1; j < boats.size(); j++) {
                    List<Boat> other = new ArrayList<>(boats);
                    other.set(i, boats.get(i).laden(boats.get(j).load));
                    other.set(j, boats.get(j).laden(boats.get(i).load));
                    int all = new Journey(this, other, rule).total();
                    if (all < now && (found[0] == NONE || all < found[1])) {
                        found = new int[] {8 * i + j, all};
                    }
                }
            }
            return found;
        }

        int ahead(int j) {
            int minutes = 0;
            while (minutes * told.l < boats.get(j).load + 1) {
                minutes++;
            }
            return minutes;
        }

        int[] fall(int j) {
            return ahead(j) > told.r ? new int[] {NONE, NONE} : new int[] {ahead(j), told.r};
        }

        int caught(int j, int f, int x, int part) {
            if (!isBoat(j) || f < 0 || f > 6 || x < 0 || x > 10 || part < 0 || part > 1) {
                return BAD;
            }
            BigInteger above = BigInteger.ZERO;
            for (int ways = 0; ways < 1 << f; ways++) {
                int sunk = Integer.bitCount(ways);
                if (sunk * told.l < boats.get(j).load + 1) {
                    above = above.add(BigInteger.valueOf(x).pow(sunk).multiply(BigInteger.valueOf(10 - x).pow(f - sunk)));
                }
            }
            BigInteger below = BigInteger.TEN.pow(f);
            BigInteger common = above.gcd(below);
            return (part == 0 ? above : below).divide(common).intValue();
        }

        int[] rests(int i, int j) {
            int a = told.y + boats.get(i).load;
            int b = told.y + boats.get(j).load;
            // Rows: both yield, the first alone, the other alone, both hold out; what the two stand.
            int[][] stood = {{a, b}, {a, 0}, {0, b}, {told.h, told.h}};
            int[] ifFirstTurns = {2, 3, 0, 1};
            int[] ifOtherTurns = {1, 0, 3, 2};
            int many = 0;
            int first = NONE;
            for (int way = 3; way >= 0; way--) {
                if (stood[ifFirstTurns[way]][0] >= stood[way][0] && stood[ifOtherTurns[way]][1] >= stood[way][1]) {
                    many++;
                    first = way;
                }
            }
            return new int[] {many, first};
        }

        int see(int i, int j) {
            if (badPair(i, j)) {
                return BAD;
            }
            if (oneWay(i, j)) {
                return NO;
            }
            if (seen.size() == 8) {
                return FULL;
            }
            seen.add(new int[] {i, j});
            return seen.size();
        }

        int forget() {
            int was = seen.size();
            seen.clear();
            return was;
        }

        int fits() {
            int bits = 0;
            for (int rule = 0; rule < 4; rule++) {
                int by = rule;
                bits += seen.stream().allMatch(s -> yielder(boats, by, s[0], s[1]) == s[0]) ? 1 << rule : 0;
            }
            return bits;
        }

        int bears(int rule, int n) {
            if (badRule(rule) || n < 0 || n > 9) {
                return BAD;
            }
            int[] starts = journey(rule).starts;
            int bits = 0;
            for (int i = 0; i < starts.length; i++) {
                bits += starts[i] <= n ? 1 << i : 0;
            }
            return bits;
        }

        int day(int rule, int z, int what) {
            if (badRule(rule) || z < 0 || z > 9999 || what < 0 || what > 1) {
                return BAD;
            }
            List<Boat> drawn = new ArrayList<>();
            for (int i = 0; i < boats.size(); i++) {
                BigInteger x = BigInteger.valueOf(7919L * z + 6151L * i + 1);
                int draw = x.multiply(x).mod(BigInteger.valueOf(65521)).intValue();
                drawn.add(boats.get(i).sent(draw % 31).laden(draw / 64 % 10));
            }
            Journey journey = new Journey(this, drawn, rule);
            return what == 0 ? journey.total() : journey.meetings.size();
        }

        int keep() {
            if (kept.size() == 2) {
                return FULL;
            }
            kept.add(new ArrayList<>(boats));
            return kept.size();
        }

        int back() {
            if (kept.isEmpty()) {
                return NO;
            }
            boats = kept.remove(kept.size() - 1);
            before.clear();
            return kept.size();
        }

        int count(int what) {
            int[] counts = {boats.size(), told.narrows.size(), seen.size(), before.size(), kept.size(), text.length()};
            return what < 0 || what > 5 ? BAD : counts[what];
        }
    }
}
