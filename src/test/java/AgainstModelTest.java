import java.util.ArrayDeque;
import java.util.ArrayList;
import java.util.Deque;
import java.util.List;
import java.util.Random;

/**
 * Runs of calls, the same ones every time, on the class and on a model that does what the document's
 * words say in the slowest and plainest way: every answer must be the same, and no call may throw.
 */
public final class AgainstModelTest {
    private static final int RUNS = 1500;
    private static final int CALLS = 512;
    private static int wrong = 0;

    public static void main(String[] args) {
        Random random = new Random(20261117L);
        for (int run = 0; run < RUNS && wrong < 20; run++) {
            oneRun(run, random);
        }
        System.out.println(wrong == 0 ? "the class and the model agree" : wrong + " answers differ from the model's");
        if (wrong != 0) {
            System.exit(1);
        }
    }

    private static void oneRun(int run, Random random) {
        SleetLine line = new SleetLine();
        Model model = new Model();
        List<String> told = new ArrayList<>();
        String waiting = "";
        int calls = 0;
        while (calls < CALLS) {
            int[] call;
            if (!waiting.isEmpty()) {
                call = new int[] {0, waiting.charAt(0), 0, 0, 0, 0};
                waiting = waiting.substring(1);
            } else if (calls == 0 || random.nextInt(90) == 0) {
                waiting = randomText(random);
                call = new int[] {1, 0, 0, 0, 0, 0};
            } else if (model.text.length() > 0 && random.nextInt(3) > 0) {
                call = new int[] {2, 0, 0, 0, 0, 0};
            } else {
                call = randomCall(random, model);
            }
            calls++;
            long want = answer(model, call);
            String name = describe(call);
            told.add(name);
            long got;
            try {
                got = answer(line, call);
            } catch (RuntimeException thrown) {
                wrong++;
                System.out.println("run " + run + ", call " + calls + ": " + name + " threw " + thrown);
                return;
            }
            if (got != want) {
                wrong++;
                System.out.println("run " + run + ", call " + calls + ": " + name + " answered " + got + ", due is "
                    + want + ", behind " + told.subList(Math.max(0, told.size() - 12), told.size()));
                return;
            }
        }
    }

    // ---- what is called

    private static final String[] NAMES = {"type", "clear", "wold", "column", "field", "voter", "days", "warms",
        "stakes", "pulls", "undo", "now", "first", "fair", "best", "power", "duel", "odds", "hears", "forget",
        "warmth", "ask", "mark", "keep", "back", "count", "trace"};

    private static String describe(int[] call) {
        return NAMES[call[0]] + "(" + call[1] + ", " + call[2] + ", " + call[3] + ", " + call[4] + ", " + call[5] + ")";
    }

    private static int[] randomCall(Random random, Model model) {
        int[] call = new int[6];
        int which = random.nextInt(NAMES.length + 6);
        // The doings come more often, so that much is there to be undone.
        call[0] = which < NAMES.length ? which : new int[] {6, 7, 8, 8, 9, 18}[which - NAMES.length];
        if (call[0] == 0 && random.nextInt(4) > 0 || call[0] == 1 || call[0] == 2 && random.nextInt(4) > 0) {
            call[0] = 3;
        }
        if (call[0] == 19 && random.nextInt(3) > 0) {
            call[0] = 18;
        }
        for (int i = 1; i < call.length; i++) {
            call[i] = number(random, 10);
        }
        switch (call[0]) {
            case 0: call[1] = random.nextInt(5) == 0 ? number(random, 300) : random.nextInt(260) - 2; break;
            case 3: call[1] = column(random, model); break;
            case 4: call[1] = column(random, model); call[2] = number(random, 8); call[3] = number(random, 4); break;
            case 5: call[1] = number(random, 6); call[2] = number(random, 2); break;
            case 7: call[1] = random.nextInt(20) == 0 ? number(random, 5) : random.nextInt(9) - 4; break;
            case 8: case 9: call[1] = column(random, model); break;
            case 11: call[1] = number(random, 8); break;
            case 12: call[1] = column(random, model); call[2] = number(random, 8); break;
            case 13: case 14: case 20: case 23: case 24: call[1] = number(random, 2); break;
            case 15: call[1] = number(random, 6); call[2] = number(random, 2); break;
            case 16: call[1] = number(random, 7); break;
            case 17:
                call[1] = column(random, model);
                call[2] = number(random, 8);
                call[3] = number(random, 11);
                call[4] = number(random, 7);
                call[5] = number(random, 2);
                break;
            case 18:
                call[1] = number(random, 2);
                call[2] = column(random, model);
                call[3] = number(random, 8);
                call[4] = number(random, 2);
                break;
            case 22: call[1] = number(random, 6); call[2] = column(random, model); break;
            case 25: call[1] = number(random, 7); break;
            default: break;
        }
        return call;
    }

    private static int column(Random random, Model model) {
        return number(random, Math.max(1, model.columns.size()));
    }

    private static int number(Random random, int below) {
        switch (random.nextInt(40)) {
            case 0: return -1;
            case 1: return below;
            case 2: return new int[] {Integer.MIN_VALUE, Integer.MAX_VALUE, -2, below + 1, 1000}[random.nextInt(5)];
            default: return random.nextInt(below);
        }
    }

    private static String randomText(Random random) {
        StringBuilder text = new StringBuilder();
        boolean gap = false;
        boolean hands = false;
        int items = random.nextInt(22);
        int lowest = random.nextInt(5);
        for (int i = 0; i < items && text.length() < 132; i++) {
            int which = random.nextInt(8);
            if (which < 4) {
                text.append('c').append(blanks(random)).append(lowest + random.nextInt(10 - lowest)).append(' ')
                    .append(random.nextInt(10)).append(' ').append(random.nextInt(10));
            } else if (which == 4) {
                text.append('v').append(1 + random.nextInt(9)).append(' ').append(random.nextInt(2));
            } else if (which == 5) {
                text.append('d').append(random.nextInt(random.nextBoolean() ? 31 : 18));
            } else if (which == 6 && !gap) {
                gap = true;
                text.append('g').append(1 + random.nextInt(6));
            } else if (which == 7 && !hands) {
                hands = true;
                text.append('h').append(random.nextInt(10)).append(' ').append(random.nextInt(10));
            } else {
                continue;
            }
            text.append(blanks(random)).append(';').append(blanks(random));
        }
        if (random.nextInt(3) == 0 && text.length() > 0) {
            spoil(text, random);
        }
        return text.toString();
    }

    private static String blanks(Random random) {
        return random.nextInt(15) == 0 ? " " : "";
    }

    private static void spoil(StringBuilder text, Random random) {
        int at = random.nextInt(text.length());
        String signs = "cghvd;0123456789 xA\u00e9\n;;  00";
        char sign = signs.charAt(random.nextInt(signs.length()));
        switch (random.nextInt(3)) {
            case 0: text.setCharAt(at, sign); break;
            case 1: text.insert(at, sign); break;
            default: text.setLength(at); break;
        }
    }

    private static long answer(SleetLine x, int[] a) {
        switch (a[0]) {
            case 0: return x.type(a[1]);
            case 1: return x.clear();
            case 2: return x.wold();
            case 3: return x.column(a[1], a[2]);
            case 4: return x.field(a[1], a[2], a[3]);
            case 5: return x.voter(a[1], a[2]);
            case 6: return x.days(a[1]);
            case 7: return x.warms(a[1]);
            case 8: return x.stakes(a[1]);
            case 9: return x.pulls(a[1]);
            case 10: return x.undo();
            case 11: return x.now(a[1]);
            case 12: return x.first(a[1], a[2]);
            case 13: return x.fair(a[1]);
            case 14: return x.best(a[1]);
            case 15: return x.power(a[1], a[2]);
            case 16: return x.duel(a[1]);
            case 17: return x.odds(a[1], a[2], a[3], a[4], a[5]);
            case 18: return x.hears(a[1], a[2], a[3], a[4]);
            case 19: return x.forget();
            case 20: return x.warmth(a[1]);
            case 21: return x.ask();
            case 22: return x.mark(a[1], a[2]);
            case 23: return x.keep(a[1]);
            case 24: return x.back(a[1]);
            case 25: return x.count(a[1]);
            default: return x.trace();
        }
    }

    private static long answer(Model x, int[] a) {
        switch (a[0]) {
            case 0: return x.type(a[1]);
            case 1: return x.clear();
            case 2: return x.wold();
            case 3: return x.column(a[1], a[2]);
            case 4: return x.field(a[1], a[2], a[3]);
            case 5: return x.voter(a[1], a[2]);
            case 6: return x.days(a[1]);
            case 7: return x.warms(a[1]);
            case 8: return x.stakes(a[1]);
            case 9: return x.pulls(a[1]);
            case 10: return x.undo();
            case 11: return x.now(a[1]);
            case 12: return x.first(a[1], a[2]);
            case 13: return x.lines(a[1], true);
            case 14: return x.lines(a[1], false);
            case 15: return x.power(a[1], a[2]);
            case 16: return x.duel(a[1]);
            case 17: return x.odds(a[1], a[2], a[3], a[4], a[5]);
            case 18: return x.hears(a[1], a[2], a[3], a[4]);
            case 19: return x.forget();
            case 20: return x.warmth(a[1]);
            case 21: return x.ask();
            case 22: return x.mark(a[1], a[2]);
            case 23: return x.keep(a[1]);
            case 24: return x.back(a[1]);
            case 25: return x.count(a[1]);
            default: return x.trace;
        }
    }

    /** What goes by: never changed once made, so that it may be kept. */
    private static final class Moment {
        final int number;
        final int extra;
        final List<Integer> stakes;

        Moment(int number, int extra, List<Integer> stakes) {
            this.number = number;
            this.extra = extra;
            this.stakes = List.copyOf(stakes);
        }
    }

    private static final class Fault extends Exception {
        private static final long serialVersionUID = 1L;
        final int place;

        Fault(int place) {
            this.place = place;
        }
    }

    private static final class Token {
        final int place;
        final String what;

        Token(int place, String what) {
            this.place = place;
            this.what = what;
        }
    }

    private static final class Model {
        static final int NO = -1000000;
        StringBuilder text = new StringBuilder();
        List<int[]> columns = new ArrayList<>();
        int gap = 2;
        int[] hands = {0, 3};
        List<int[]> voters = new ArrayList<>();
        List<Integer> warm = new ArrayList<>();
        Moment moment = new Moment(0, 0, noStakes());
        Deque<Moment> done = new ArrayDeque<>();
        Moment[] keptMoment = new Moment[2];
        List<Deque<Moment>> keptDone = new ArrayList<>(List.of(new ArrayDeque<>(), new ArrayDeque<>()));
        List<int[]> heard = new ArrayList<>();
        long trace = 0;

        static List<Integer> noStakes() {
            return List.of(-9, -9, -9, -9, -9, -9, -9, -9);
        }

        int type(int c) {
            if (c < 0 || c > 255) return -1;
            if (text.length() == 140) return -3;
            text.append((char) c);
            return text.length();
        }

        int clear() {
            int had = text.length();
            text.setLength(0);
            return had;
        }

        /** All tokens up to the first that is none; that one bears the word "wrong". */
        List<Token> tokens() {
            List<Token> tokens = new ArrayList<>();
            String rest = text.toString();
            java.util.regex.Matcher m = java.util.regex.Pattern.compile("[a-z]+|[0-9]+|;|[^ ]").matcher(rest);
            while (m.find()) {
                String word = m.group();
                boolean number = word.matches("[0-9]+");
                boolean fine = number ? word.matches("0|[1-9][0-9]?") : word.matches("[a-z]+|;");
                tokens.add(new Token(m.start(), fine ? word : "wrong!"));
            }
            tokens.add(new Token(rest.length(), "end!"));
            return tokens;
        }

        int wold() {
            List<int[]> newColumns = new ArrayList<>();
            List<int[]> newVoters = new ArrayList<>();
            List<Integer> newWarm = new ArrayList<>();
            List<Integer> newGap = new ArrayList<>();
            List<int[]> newHands = new ArrayList<>();
            int items = 0;
            try {
                List<Token> tokens = tokens();
                int at = 0;
                while (!tokens.get(at).what.equals("end!")) {
                    Token letter = tokens.get(at);
                    boolean may;
                    int[][] bounds;
                    switch (letter.what) {
                        case "c": may = newColumns.size() < 8; bounds = new int[][] {{0, 9}, {0, 9}, {0, 9}}; break;
                        case "g": may = newGap.isEmpty(); bounds = new int[][] {{1, 6}}; break;
                        case "h": may = newHands.isEmpty(); bounds = new int[][] {{0, 9}, {0, 9}}; break;
                        case "v": may = newVoters.size() < 6; bounds = new int[][] {{1, 9}, {0, 1}}; break;
                        case "d": may = newWarm.size() < 8; bounds = new int[][] {{0, 30}}; break;
                        default: throw new Fault(letter.place);
                    }
                    if (!may) throw new Fault(letter.place);
                    at++;
                    int[] numbers = new int[bounds.length];
                    for (int i = 0; i < bounds.length; i++, at++) {
                        Token t = tokens.get(at);
                        if (!t.what.matches("[0-9]+")) throw new Fault(t.place);
                        numbers[i] = Integer.parseInt(t.what);
                        if (numbers[i] < bounds[i][0] || numbers[i] > bounds[i][1]) throw new Fault(t.place);
                    }
                    if (!tokens.get(at).what.equals(";")) throw new Fault(tokens.get(at).place);
                    at++;
                    items++;
                    switch (letter.what) {
                        case "c": newColumns.add(numbers); break;
                        case "g": newGap.add(numbers[0]); break;
                        case "h": newHands.add(numbers); break;
                        case "v": newVoters.add(numbers); break;
                        default: newWarm.add(numbers[0]); break;
                    }
                }
            } catch (Fault fault) {
                return -10 - fault.place;
            }
            long oldTrace = trace;
            text.setLength(0);
            columns = newColumns;
            voters = newVoters;
            warm = newWarm;
            gap = newGap.isEmpty() ? 2 : newGap.get(0);
            hands = newHands.isEmpty() ? new int[] {0, 3} : newHands.get(0);
            moment = new Moment(0, 0, noStakes());
            done.clear();
            heard.clear();
            keptMoment = new Moment[2];
            trace = oldTrace;
            return items;
        }

        boolean column(int c) {
            return c >= 0 && c < columns.size();
        }

        boolean field(int c, int f) {
            return column(c) && f >= 0 && f < 8;
        }

        int warmAt(int number) {
            return warm.isEmpty() ? 0 : warm.get(number % warm.size());
        }

        int mild(int c, int f, int extra) {
            return warmAt(moment.number) + extra - (columns.get(c)[0] + f);
        }

        int mild(int c, int f) {
            return mild(c, f, moment.extra);
        }

        int falls(int c, int f) {
            int mild = mild(c, f);
            return mild <= 0 ? 2 : mild > gap ? 0 : 1;
        }

        int edge(int c) {
            for (int f = 0; f < 8; f++) if (falls(c, f) == 2) return f;
            return 8;
        }

        int wet(int c) {
            for (int f = 0; f < 8; f++) if (falls(c, f) != 0) return f;
            return 8;
        }

        int claim(int c, int walker) {
            for (int f = 0; f < 8; f++) if (mild(c, f) <= hands[walker]) return f;
            return 8;
        }

        int[] halves(int c) {
            int[] at = {claim(c, 0), claim(c, 1)};
            int comings = 0;
            while (at[0] != at[1]) {
                int who = comings % 2;
                int between = Math.abs(at[0] - at[1]);
                int step = between - between / 2;
                at[who] += at[1 - who] > at[who] ? step : -step;
                comings++;
            }
            return new int[] {at[0], comings};
        }

        int column(int c, int what) {
            if (!column(c) || what < 0 || what > 9) return -1;
            if (what < 3) return columns.get(c)[what];
            if (what == 3) return edge(c);
            if (what == 4) return wet(c);
            if (what == 5) return moment.stakes.get(c);
            if (what < 8) return claim(c, what - 6);
            return halves(c)[what - 8];
        }

        int field(int c, int f, int what) {
            if (!field(c, f) || what < 0 || what > 3) return NO;
            if (what == 0) return mild(c, f);
            if (what == 1) return falls(c, f);
            return mild(c, f) <= hands[what - 2] ? 1 : 0;
        }

        int voter(int v, int what) {
            if (v < 0 || v >= voters.size() || what < 0 || what > 1) return -1;
            return voters.get(v)[what];
        }

        void become(Moment next) {
            done.addLast(moment);
            if (done.size() > 10) done.removeFirst();
            moment = next;
        }

        int days(int n) {
            if (n < 1 || n > 9) return -1;
            if (moment.number + n > 9999) return -2;
            become(new Moment(moment.number + n, moment.extra, moment.stakes));
            return warmAt(moment.number);
        }

        int warms(int n) {
            if (n < -3 || n > 3 || n == 0) return -1;
            if (Math.abs(moment.extra + n) > 9) return -2;
            become(new Moment(moment.number, moment.extra + n, moment.stakes));
            return falling(2);
        }

        int staked(int c, int place) {
            List<Integer> stakes = new ArrayList<>(moment.stakes);
            int before = stakes.set(c, place);
            become(new Moment(moment.number, moment.extra, stakes));
            return before;
        }

        int stakes(int c) {
            if (!column(c)) return -1;
            int place = halves(c)[0];
            if (moment.stakes.get(c) == place) return -2;
            staked(c, place);
            return place;
        }

        int pulls(int c) {
            if (!column(c)) return -1;
            if (moment.stakes.get(c) == -9) return -2;
            return staked(c, -9);
        }

        int undo() {
            if (done.isEmpty()) return -2;
            moment = done.removeLast();
            return done.size();
        }

        int falling(int what) {
            int many = 0;
            for (int c = 0; c < columns.size(); c++) for (int f = 0; f < 8; f++) if (falls(c, f) == what) many++;
            return many;
        }

        int now(int what) {
            switch (what) {
                case 0: return moment.number;
                case 1: return warmAt(moment.number);
                case 2: return moment.extra;
                case 3: return falling(2);
                case 4: return falling(0);
                case 5:
                    int widest = 0;
                    for (int c = 0; c < columns.size(); c++) widest = Math.max(widest, edge(c) - wet(c));
                    return widest;
                case 6:
                    int many = 0;
                    for (int stake : moment.stakes) if (stake != -9) many++;
                    return many;
                case 7:
                    int vote = 0;
                    for (int[] v : voters) vote += v[0] * (2 * v[1] - 1);
                    return vote;
                default: return NO;
            }
        }

        int first(int c, int f) {
            if (!field(c, f)) return -1;
            for (int n = 0; n <= 99; n++) {
                if (warmAt(moment.number + n) + moment.extra - columns.get(c)[0] - f <= 0) return n;
            }
            return -9;
        }

        /** All lines as lists of figures, in the order of their numbers. */
        List<int[]> allLines() {
            List<int[]> all = new ArrayList<>();
            all.add(new int[0]);
            for (int c = 0; c < columns.size(); c++) {
                List<int[]> longer = new ArrayList<>();
                for (int[] line : all) {
                    for (int at = 0; at <= 8; at++) {
                        if (c > 0 && Math.abs(line[c - 1] - at) > 1) continue;
                        int[] more = java.util.Arrays.copyOf(line, c + 1);
                        more[c] = at;
                        longer.add(more);
                    }
                }
                all = longer;
            }
            return all;
        }

        List<int[]> judgedFor = null;
        int[] judged = null;

        int lines(int what, boolean fair) {
            if (what < 0 || what > 1) return -1;
            if (judgedFor != columns) {
                judgedFor = columns;
                judged = judge();
            }
            return judged[(fair ? 0 : 2) + what];
        }

        int[] judge() {
            int fairOnes = 0;
            int firstFair = -9;
            int best = -1;
            int bestLesser = -1;
            for (int[] line : allLines()) {
                int number = 0;
                int hill = 0;
                int sea = 0;
                int allHill = 0;
                int allSea = 0;
                for (int c = 0; c < line.length; c++) {
                    number = number * 10 + line[c];
                    for (int f = 0; f < 8; f++) {
                        allHill += columns.get(c)[1];
                        allSea += columns.get(c)[2];
                        if (f >= line[c]) hill += columns.get(c)[1];
                        else sea += columns.get(c)[2];
                    }
                }
                if (hill >= allHill / 2.0 && sea >= allSea / 2.0) {
                    fairOnes++;
                    if (firstFair == -9) firstFair = number;
                }
                if (Math.min(hill, sea) > bestLesser) {
                    bestLesser = Math.min(hill, sea);
                    best = number;
                }
            }
            return new int[] {fairOnes, firstFair, best, bestLesser};
        }

        /** Orders in which v decides, and all orders, by going through every order. */
        int[] orders(List<Integer> come, int v) {
            if (come.size() == voters.size()) {
                int all = 0;
                for (int[] w : voters) all += w[0];
                int sum = 0;
                for (int who : come) {
                    sum += voters.get(who)[0];
                    if (sum > all / 2.0) return new int[] {who == v ? 1 : 0, 1};
                }
                return new int[] {0, 1};
            }
            int[] both = {0, 0};
            for (int who = 0; who < voters.size(); who++) {
                if (come.contains(who)) continue;
                List<Integer> next = new ArrayList<>(come);
                next.add(who);
                int[] more = orders(next, v);
                both[0] += more[0];
                both[1] += more[1];
            }
            return both;
        }

        int fraction(int upper, int lower, int what) {
            for (int d = lower; d > 1; d--) {
                if (upper % d == 0 && lower % d == 0) return (what == 0 ? upper : lower) / d;
            }
            return what == 0 ? upper : lower;
        }

        int power(int v, int what) {
            if (v < 0 || v >= voters.size() || what < 0 || what > 1) return -1;
            int[] both = orders(new ArrayList<>(), v);
            return fraction(both[0], both[1], what);
        }

        int turns(int left, boolean wantsMany, int extra) {
            if (left == 0) {
                int many = 0;
                for (int c = 0; c < columns.size(); c++) for (int f = 0; f < 8; f++) if (mild(c, f, extra) <= 0) many++;
                return many;
            }
            int best = wantsMany ? -1 : 1000;
            for (int step = -1; step <= 1; step++) {
                if (Math.abs(extra + step) > 9) continue;
                int ends = turns(left - 1, !wantsMany, extra + step);
                best = wantsMany ? Math.max(best, ends) : Math.min(best, ends);
            }
            return best;
        }

        int duel(int n) {
            if (n < 0 || n > 6) return -1;
            return turns(n, true, moment.extra);
        }

        int odds(int c, int f, int x, int n, int what) {
            if (!field(c, f) || x < 0 || x > 10 || n < 0 || n > 6 || what < 0 || what > 1) return -1;
            int upper = 0;
            for (int way = 0; way < 1 << n; way++) {
                int ups = Integer.bitCount(way);
                int weight = 1;
                for (int i = 0; i < n; i++) weight *= i < ups ? x : 10 - x;
                if (mild(c, f, moment.extra + ups - (n - ups)) <= 0) upper += weight;
            }
            int lower = 1;
            for (int i = 0; i < n; i++) lower *= 10;
            return fraction(upper, lower, what);
        }

        int hears(int walker, int c, int f, int snow) {
            if (walker < 0 || walker > 1 || !field(c, f) || snow < 0 || snow > 1) return -1;
            if (heard.size() == 6) return -3;
            heard.add(new int[] {walker, c, f, snow});
            return heard.size();
        }

        int forget() {
            int was = heard.size();
            heard.clear();
            return was;
        }

        boolean saysSnow(int walker, int c, int f, int together) {
            return together - (columns.get(c)[0] + f) <= hands[walker];
        }

        List<Integer> warms() {
            List<Integer> fitting = new ArrayList<>();
            for (int together = 0; together <= 39; together++) {
                boolean fits = true;
                for (int[] h : heard) if (saysSnow(h[0], h[1], h[2], together) != (h[3] == 1)) fits = false;
                if (fits) fitting.add(together);
            }
            return fitting;
        }

        int warmth(int what) {
            if (what < 0 || what > 1) return -1;
            List<Integer> warms = warms();
            if (what == 0) return warms.size();
            return warms.isEmpty() ? -9 : warms.get(0);
        }

        int ask() {
            List<Integer> warms = warms();
            if (warms.size() < 2) return -9;
            int asked = -9;
            int least = 1000;
            for (int code = 0; code < 200; code++) {
                int walker = code / 100;
                int c = code / 10 % 10;
                int f = code % 10;
                if (!field(c, f)) continue;
                int snow = 0;
                for (int together : warms) if (saysSnow(walker, c, f, together)) snow++;
                if (snow == 0 || snow == warms.size()) continue;
                int greater = Math.max(snow, warms.size() - snow);
                if (greater < least) {
                    least = greater;
                    asked = code;
                }
            }
            return asked;
        }

        int mark(int kind, int c) {
            if (kind < 0 || kind > 5 || !column(c)) return NO;
            int[] column = columns.get(c);
            switch (kind) {
                case 0: trace += 1; return column[0];
                case 1: trace += 11; return column[0] + column[1];
                case 2: trace += 101; return column[0] - column[2];
                case 3: trace += 1011; return (column[0] + column[1]) * 2;
                case 4: trace += 10101; return column[0] - column[2] + c;
                default: trace += 100001; return column[0] + edge(c);
            }
        }

        int keep(int image) {
            if (image < 0 || image > 1) return -1;
            keptMoment[image] = moment;
            keptDone.set(image, new ArrayDeque<>(done));
            return moment.number;
        }

        int back(int image) {
            if (image < 0 || image > 1) return -1;
            if (keptMoment[image] == null) return -2;
            moment = keptMoment[image];
            done = new ArrayDeque<>(keptDone.get(image));
            return moment.number;
        }

        int count(int what) {
            switch (what) {
                case 0: return columns.size();
                case 1: return voters.size();
                case 2: return warm.size();
                case 3: return gap;
                case 4: return heard.size();
                case 5: return done.size();
                case 6: return text.length();
                default: return -1;
            }
        }
    }
}
