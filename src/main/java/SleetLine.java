/** Where snow ends and rain begins: columns, walkers, voters and days, as ../shared/DOC.md tells them. */
public final class SleetLine {
    public static final int BAD = -1, STATE = -2, FULL = -3, NONE = -9;
    public static final int NO = -1000000;

    private static final int MOST_BYTES = 140;
    private static final int MOST_COLUMNS = 8, MOST_VOTERS = 6, MOST_DAYS = 8;
    private static final int FIELDS = 8;
    private static final int WALKERS = 2, IMAGES = 2;
    private static final int LAST_DAY = 9999, MOST_EXTRA = 9, MOST_STEPS = 10;
    private static final int MOST_HEARD = 6, MOST_WARMTH = 39;
    private static final int DAYS_AHEAD = 99, MOST_TURNS = 6, TENTHS = 10;

    private static final int[] ORDERS = {1, 1, 2, 6, 24, 120, 720};

    private final Text text = new Text();
    private Wold told = new Wold();
    private Wold draft = new Wold();
    private final Lines lines = new Lines();

    private final Now present = new Now();
    private final Now[] images = {new Now(), new Now()};
    private final boolean[] kept = new boolean[IMAGES];

    private int heard = 0;
    private int leastWarmth = 0;
    private int mostWarmth = MOST_WARMTH;

    private long traced = 0;

    public SleetLine() {
    }

    // ---- the wold

    public int type(int c) {
        if (!within(c, 0, 255)) {
            return BAD;
        }
        return text.add(c) ? text.length : FULL;
    }

    public int clear() {
        int had = text.length;
        text.length = 0;
        return had;
    }

    public int wold() {
        int items = text.tell(draft);
        if (items < 0) {
            return items;
        }
        Wold old = told;
        told = draft;
        draft = old;
        text.length = 0;
        lines.known = false;
        present.begin();
        for (int i = 0; i < IMAGES; i++) {
            kept[i] = false;
        }
        hearNothing();
        return items;
    }

    public int column(int c, int what) {
        if (!isColumn(c)) {
            return BAD;
        }
        switch (what) {
            case 0: return told.low[c];
            case 1: return told.hill[c];
            case 2: return told.sea[c];
            case 3: return edge(c);
            case 4: return wet(c);
            case 5: return present.stake[c];
            case 6: return claim(c, 0);
            case 7: return claim(c, 1);
            case 8: return halves(c, false);
            case 9: return halves(c, true);
            default: return BAD;
        }
    }

    public int field(int c, int f, int what) {
        if (!isField(c, f)) {
            return NO;
        }
        switch (what) {
            case 0: return mild(c, f);
            case 1: return falls(c, f);
            case 2: return mild(c, f) <= told.hand[0] ? 1 : 0;
            case 3: return mild(c, f) <= told.hand[1] ? 1 : 0;
            default: return NO;
        }
    }

    public int voter(int v, int what) {
        if (!isVoter(v)) {
            return BAD;
        }
        switch (what) {
            case 0: return told.weight[v];
            case 1: return told.wants[v];
            default: return BAD;
        }
    }

    // ---- what is done

    public int days(int n) {
        if (!within(n, 1, 9)) {
            return BAD;
        }
        if (present.day + n > LAST_DAY) {
            return STATE;
        }
        present.remember(Now.GONE_BY, 0, present.day);
        present.day += n;
        return warmToday();
    }

    public int warms(int n) {
        if (!within(n, -3, 3) || n == 0) {
            return BAD;
        }
        if (!within(present.extra + n, -MOST_EXTRA, MOST_EXTRA)) {
            return STATE;
        }
        present.remember(Now.WARMED, 0, present.extra);
        present.extra += n;
        return snowyFields(present.extra);
    }

    public int stakes(int c) {
        if (!isColumn(c)) {
            return BAD;
        }
        int place = halves(c, false);
        if (present.stake[c] == place) {
            return STATE;
        }
        present.remember(Now.STAKE, c, present.stake[c]);
        present.stake[c] = place;
        return place;
    }

    public int pulls(int c) {
        if (!isColumn(c)) {
            return BAD;
        }
        int place = present.stake[c];
        if (place == NONE) {
            return STATE;
        }
        present.remember(Now.STAKE, c, place);
        present.stake[c] = NONE;
        return place;
    }

    public int undo() {
        if (present.steps <= 0) {
            return STATE;
        }
        present.takeBack();
        return present.steps;
    }

    public int now(int what) {
        switch (what) {
            case 0: return present.day;
            case 1: return warmToday();
            case 2: return present.extra;
            case 3: return snowyFields(present.extra);
            case 4: return rainyFields();
            case 5: return widest();
            case 6: return present.standing();
            case 7: return vote();
            default: return NO;
        }
    }

    public int first(int c, int f) {
        if (!isField(c, f)) {
            return BAD;
        }
        int height = told.low[c] + f;
        for (int ahead = 0; ahead <= DAYS_AHEAD; ahead++) {
            if (told.warmOn(present.day + ahead) + present.extra <= height) {
                return ahead;
            }
        }
        return NONE;
    }

    // ---- lines, votes

    public int fair(int what) {
        if (!within(what, 0, 1)) {
            return BAD;
        }
        lines.judge(told);
        return what == 0 ? lines.fairOnes : lines.firstFair;
    }

    public int best(int what) {
        if (!within(what, 0, 1)) {
            return BAD;
        }
        lines.judge(told);
        return what == 0 ? lines.bestLine : lines.bestLesser;
    }

    public int power(int v, int what) {
        if (!isVoter(v) || !within(what, 0, 1)) {
            return BAD;
        }
        return leastTerms(decidedOrders(v), ORDERS[told.voters], what);
    }

    public int duel(int n) {
        if (!within(n, 0, MOST_TURNS)) {
            return BAD;
        }
        // A colder day never takes snow from a field, so no turn is better for who wants many
        // than 1 less, nor for who wants few than 1 more, as far as EXTRA goes.
        int extra = present.extra;
        for (int turn = 0; turn < n; turn++) {
            extra = turn % 2 == 0 ? Math.max(extra - 1, -MOST_EXTRA) : Math.min(extra + 1, MOST_EXTRA);
        }
        return snowyFields(extra);
    }

    public int odds(int c, int f, int x, int n, int what) {
        if (!isField(c, f) || !within(x, 0, TENTHS) || !within(n, 0, MOST_TURNS) || !within(what, 0, 1)) {
            return BAD;
        }
        int ways = 1;
        for (int i = 0; i < n; i++) {
            ways *= TENTHS;
        }
        return leastTerms(snowyWays(mild(c, f), x, n), ways, what);
    }

    // ---- what was said

    public int hears(int walker, int c, int f, int snow) {
        if (!within(walker, 0, WALKERS - 1) || !isField(c, f) || !within(snow, 0, 1)) {
            return BAD;
        }
        if (heard >= MOST_HEARD) {
            return FULL;
        }
        // What was said bounds the warmth from one side: what agrees with all stays one stretch.
        int limit = told.snowLimit(walker, c, f);
        if (snow == 1) {
            mostWarmth = Math.min(mostWarmth, limit);
        } else {
            leastWarmth = Math.max(leastWarmth, limit + 1);
        }
        heard++;
        return heard;
    }

    public int forget() {
        int was = heard;
        hearNothing();
        return was;
    }

    public int warmth(int what) {
        if (!within(what, 0, 1)) {
            return BAD;
        }
        int many = warmths();
        if (what == 0) {
            return many;
        }
        return many == 0 ? NONE : leastWarmth;
    }

    public int ask() {
        int many = warmths();
        int asked = NONE;
        // Only a question that leaves fewer than there are parts them at all.
        int leaves = many;
        for (int walker = 0; walker < WALKERS; walker++) {
            for (int c = 0; c < told.columns; c++) {
                for (int f = 0; f < FIELDS; f++) {
                    int greater = greaterPart(told.snowLimit(walker, c, f), many);
                    if (greater < leaves) {
                        leaves = greater;
                        asked = 100 * walker + 10 * c + f;
                    }
                }
            }
        }
        return asked;
    }

    // ---- kinds, images

    public int mark(int kind, int c) {
        if (!isColumn(c)) {
            return NO;
        }
        switch (kind) {
            case 0: return columnMark(c);
            case 1: return moorMark(c);
            case 2: return fenMark(c);
            case 3: return fellMark(c);
            case 4: return saltingMark(c);
            case 5: return woodMark(c);
            default: return NO;
        }
    }

    public int keep(int image) {
        if (!within(image, 0, IMAGES - 1)) {
            return BAD;
        }
        images[image].become(present);
        kept[image] = true;
        return present.day;
    }

    public int back(int image) {
        if (!within(image, 0, IMAGES - 1)) {
            return BAD;
        }
        if (!kept[image]) {
            return STATE;
        }
        present.become(images[image]);
        return present.day;
    }

    public int count(int what) {
        switch (what) {
            case 0: return told.columns;
            case 1: return told.voters;
            case 2: return told.days;
            case 3: return told.gap;
            case 4: return heard;
            case 5: return present.steps;
            case 6: return text.length;
            default: return BAD;
        }
    }

    public long trace() {
        return traced;
    }

    // ---- what may be asked for

    private static boolean within(int number, int least, int most) {
        return number >= least && number <= most;
    }

    private boolean isColumn(int c) {
        return c >= 0 && c < told.columns;
    }

    private boolean isField(int c, int f) {
        return isColumn(c) && within(f, 0, FIELDS - 1);
    }

    private boolean isVoter(int v) {
        return v >= 0 && v < told.voters;
    }

    // ---- what falls where

    private int warmToday() {
        return told.warmOn(present.day);
    }

    private int mild(int c, int f) {
        return warmToday() + present.extra - (told.low[c] + f);
    }

    private int falls(int c, int f) {
        int mild = mild(c, f);
        if (mild <= 0) {
            return 2;
        }
        return mild > told.gap ? 0 : 1;
    }

    /** EDGE, WET and CLAIM are all of this form, as MILD is 1 less from field to field. */
    private int lowestUpTo(int c, int limit) {
        for (int f = 0; f < FIELDS; f++) {
            if (mild(c, f) <= limit) {
                return f;
            }
        }
        return FIELDS;
    }

    private int edge(int c) {
        return lowestUpTo(c, 0);
    }

    private int wet(int c) {
        return lowestUpTo(c, told.gap);
    }

    private int claim(int c, int walker) {
        return lowestUpTo(c, told.hand[walker]);
    }

    private int halves(int c, boolean asksComings) {
        int mine = claim(c, 0);
        int his = claim(c, 1);
        int comings = 0;
        while (mine != his && comings < FIELDS) {
            if (comings % 2 == 0) {
                mine += greaterHalf(his - mine);
            } else {
                his += greaterHalf(mine - his);
            }
            comings++;
        }
        return asksComings ? comings : mine;
    }

    private static int greaterHalf(int between) {
        return between >= 0 ? (between + 1) / 2 : (between - 1) / 2;
    }

    private int snowyFields(int extra) {
        int many = 0;
        for (int c = 0; c < told.columns; c++) {
            int lowestSnow = warmToday() + extra - told.low[c];
            many += FIELDS - Math.min(Math.max(lowestSnow, 0), FIELDS);
        }
        return many;
    }

    private int rainyFields() {
        int many = 0;
        for (int c = 0; c < told.columns; c++) {
            // All fields below the lowest where it does not rain are rainy.
            many += wet(c);
        }
        return many;
    }

    private int widest() {
        int widest = 0;
        for (int c = 0; c < told.columns; c++) {
            widest = Math.max(widest, edge(c) - wet(c));
        }
        return widest;
    }

    // ---- votes and fractions

    private int vote() {
        int vote = 0;
        for (int v = 0; v < told.voters; v++) {
            vote += told.wants[v] == 1 ? told.weight[v] : -told.weight[v];
        }
        return vote;
    }

    /** In how many orders of all voters v is the one by whom more than half have come. */
    private int decidedOrders(int v) {
        int all = weightOf((1 << told.voters) - 1);
        int orders = 0;
        for (int ahead = 0; ahead < 1 << told.voters; ahead++) {
            if ((ahead >> v & 1) == 1) {
                continue;
            }
            int come = weightOf(ahead);
            if (2 * come <= all && 2 * (come + told.weight[v]) > all) {
                int many = Integer.bitCount(ahead);
                orders += ORDERS[many] * ORDERS[told.voters - 1 - many];
            }
        }
        return orders;
    }

    private int weightOf(int group) {
        int sum = 0;
        for (int v = 0; v < told.voters; v++) {
            if ((group >> v & 1) == 1) {
                sum += told.weight[v];
            }
        }
        return sum;
    }

    /** Of 10 to the power of left ways, those that end with snow. */
    private static int snowyWays(int mild, int warmer, int left) {
        if (left <= 0) {
            return mild <= 0 ? 1 : 0;
        }
        return warmer * snowyWays(mild + 1, warmer, left - 1)
            + (TENTHS - warmer) * snowyWays(mild - 1, warmer, left - 1);
    }

    private static int leastTerms(int upper, int lower, int what) {
        int shared = greatestShared(upper, lower);
        if (shared <= 0) {
            return 0;
        }
        return (what == 0 ? upper : lower) / shared;
    }

    private static int greatestShared(int a, int b) {
        int big = a;
        int small = b;
        for (int i = 0; i < 100 && small != 0; i++) {
            int rest = big % small;
            big = small;
            small = rest;
        }
        return big;
    }

    // ---- what was said

    private void hearNothing() {
        heard = 0;
        leastWarmth = 0;
        mostWarmth = MOST_WARMTH;
    }

    private int warmths() {
        return Math.max(mostWarmth - leastWarmth + 1, 0);
    }

    private int greaterPart(int limit, int many) {
        int snow = Math.min(Math.max(limit - leastWarmth + 1, 0), many);
        return Math.max(snow, many - snow);
    }

    // ---- kinds: each body asks the one of the kind above

    private int columnMark(int c) {
        traced += 1;
        return told.low[c];
    }

    private int moorMark(int c) {
        traced += 10;
        return columnMark(c) + told.hill[c];
    }

    private int fenMark(int c) {
        traced += 100;
        return columnMark(c) - told.sea[c];
    }

    private int fellMark(int c) {
        traced += 1000;
        return moorMark(c) * 2;
    }

    private int saltingMark(int c) {
        traced += 10000;
        return fenMark(c) + c;
    }

    private int woodMark(int c) {
        traced += 100000;
        return columnMark(c) + edge(c);
    }

    /** All that a text tells. */
    private static final class Wold {
        int columns = 0;
        final int[] low = new int[MOST_COLUMNS];
        final int[] hill = new int[MOST_COLUMNS];
        final int[] sea = new int[MOST_COLUMNS];
        int gap = 2;
        final int[] hand = {0, 3};
        int voters = 0;
        final int[] weight = new int[MOST_VOTERS];
        final int[] wants = new int[MOST_VOTERS];
        int days = 0;
        final int[] warm = new int[MOST_DAYS];

        void begin() {
            columns = 0;
            gap = 2;
            hand[0] = 0;
            hand[1] = 3;
            voters = 0;
            days = 0;
        }

        void addColumn(int itsLow, int itsHill, int itsSea) {
            if (columns < MOST_COLUMNS) {
                low[columns] = itsLow;
                hill[columns] = itsHill;
                sea[columns] = itsSea;
                columns++;
            }
        }

        void addVoter(int itsWeight, int itWants) {
            if (voters < MOST_VOTERS) {
                weight[voters] = itsWeight;
                wants[voters] = itWants;
                voters++;
            }
        }

        void addDay(int itsWarm) {
            if (days < MOST_DAYS) {
                warm[days] = itsWarm;
                days++;
            }
        }

        int warmOn(int number) {
            return days > 0 && number >= 0 ? warm[number % days] : 0;
        }

        /** The greatest WARM and EXTRA together at which the walker still says SNOW of the field. */
        int snowLimit(int walker, int c, int f) {
            return low[c] + f + hand[walker];
        }
    }

    /** THE TEXT, and how it is read: token by token, till one can't stand where it does. */
    private static final class Text {
        private static final int END = 0, LETTERS = 1, NUMBER = 2, STOP = 3, WRONG = 4;

        private final int[] bytes = new int[MOST_BYTES];
        int length = 0;
        private int place = 0;
        private int sort = END;
        private int start = 0;
        private int value = 0;
        private boolean gapTold = false;
        private boolean handsTold = false;
        private final int[] numbers = new int[3];

        boolean add(int b) {
            if (length >= MOST_BYTES) {
                return false;
            }
            bytes[length] = b;
            length++;
            return true;
        }

        /** How many items, or -10 less the fault's place. */
        int tell(Wold into) {
            place = 0;
            gapTold = false;
            handsTold = false;
            into.begin();
            // An item takes bytes, so there are never more items than those.
            for (int items = 0; items <= MOST_BYTES; items++) {
                take();
                if (sort == END) {
                    return items;
                }
                if (!readItem(into)) {
                    break;
                }
            }
            return -10 - start;
        }

        private boolean readItem(Wold into) {
            if (sort != LETTERS) {
                return false;
            }
            switch (value) {
                case 'c': return readColumn(into);
                case 'g': return readGap(into);
                case 'h': return readHands(into);
                case 'v': return readVoter(into);
                case 'd': return readDay(into);
                default: return false;
            }
        }

        private boolean readColumn(Wold into) {
            if (into.columns >= MOST_COLUMNS) {
                return false;
            }
            if (!number(0, 0, 9) || !number(1, 0, 9) || !number(2, 0, 9) || !ended()) {
                return false;
            }
            into.addColumn(numbers[0], numbers[1], numbers[2]);
            return true;
        }

        private boolean readGap(Wold into) {
            if (gapTold || !number(0, 1, 6) || !ended()) {
                return false;
            }
            gapTold = true;
            into.gap = numbers[0];
            return true;
        }

        private boolean readHands(Wold into) {
            if (handsTold || !number(0, 0, 9) || !number(1, 0, 9) || !ended()) {
                return false;
            }
            handsTold = true;
            into.hand[0] = numbers[0];
            into.hand[1] = numbers[1];
            return true;
        }

        private boolean readVoter(Wold into) {
            if (into.voters >= MOST_VOTERS) {
                return false;
            }
            if (!number(0, 1, 9) || !number(1, 0, 1) || !ended()) {
                return false;
            }
            into.addVoter(numbers[0], numbers[1]);
            return true;
        }

        private boolean readDay(Wold into) {
            if (into.days >= MOST_DAYS || !number(0, 0, 30) || !ended()) {
                return false;
            }
            into.addDay(numbers[0]);
            return true;
        }

        private boolean number(int which, int least, int most) {
            take();
            if (sort != NUMBER || !within(value, least, most)) {
                return false;
            }
            numbers[which] = value;
            return true;
        }

        private boolean ended() {
            take();
            return sort == STOP;
        }

        private void take() {
            while (place < length && bytes[place] == ' ') {
                place++;
            }
            start = place;
            value = 0;
            if (place >= length) {
                sort = END;
            } else if (within(bytes[place], 'a', 'z')) {
                takeLetters();
            } else if (within(bytes[place], '0', '9')) {
                takeNumber();
            } else {
                sort = bytes[place] == ';' ? STOP : WRONG;
                place++;
            }
        }

        private void takeLetters() {
            sort = LETTERS;
            value = bytes[start];
            while (place < length && bytes[place] >= 'a' && bytes[place] <= 'z') {
                place++;
            }
            if (place - start > 1) {
                // No item begins with more than one letter.
                value = 0;
            }
        }

        private void takeNumber() {
            while (place < length && bytes[place] >= '0' && bytes[place] <= '9') {
                if (place - start < 2) {
                    value = value * 10 + bytes[place] - '0';
                }
                place++;
            }
            int figures = place - start;
            boolean zeroAhead = figures > 1 && bytes[start] == '0';
            sort = figures > 2 || zeroAhead ? WRONG : NUMBER;
        }
    }

    /** What goes by and can be undone; an image is another of these. */
    private static final class Now {
        static final int GONE_BY = 0, WARMED = 1, STAKE = 2;

        int day = 0;
        int extra = 0;
        final int[] stake = {NONE, NONE, NONE, NONE, NONE, NONE, NONE, NONE};
        int steps = 0;
        private final int[] stepKind = new int[MOST_STEPS];
        private final int[] stepColumn = new int[MOST_STEPS];
        private final int[] stepBefore = new int[MOST_STEPS];

        void begin() {
            day = 0;
            extra = 0;
            for (int c = 0; c < MOST_COLUMNS; c++) {
                stake[c] = NONE;
            }
            steps = 0;
        }

        void become(Now other) {
            day = other.day;
            extra = other.extra;
            System.arraycopy(other.stake, 0, stake, 0, MOST_COLUMNS);
            steps = other.steps;
            System.arraycopy(other.stepKind, 0, stepKind, 0, MOST_STEPS);
            System.arraycopy(other.stepColumn, 0, stepColumn, 0, MOST_STEPS);
            System.arraycopy(other.stepBefore, 0, stepBefore, 0, MOST_STEPS);
        }

        void remember(int kind, int column, int before) {
            if (steps >= MOST_STEPS) {
                loseOldest();
            }
            stepKind[steps] = kind;
            stepColumn[steps] = column;
            stepBefore[steps] = before;
            steps++;
        }

        private void loseOldest() {
            steps = MOST_STEPS - 1;
            System.arraycopy(stepKind, 1, stepKind, 0, steps);
            System.arraycopy(stepColumn, 1, stepColumn, 0, steps);
            System.arraycopy(stepBefore, 1, stepBefore, 0, steps);
        }

        void takeBack() {
            if (steps <= 0) {
                return;
            }
            steps--;
            int before = stepBefore[steps];
            switch (stepKind[steps]) {
                case GONE_BY:
                    day = before;
                    break;
                case WARMED:
                    extra = before;
                    break;
                default:
                    stake[stepColumn[steps]] = before;
                    break;
            }
        }

        int standing() {
            int many = 0;
            for (int c = 0; c < MOST_COLUMNS; c++) {
                if (stake[c] != NONE) {
                    many++;
                }
            }
            return many;
        }
    }

    /** All lines of a wold, judged once: nothing but a new text changes what they are worth. */
    private static final class Lines {
        boolean known = false;
        int fairOnes = 0;
        int firstFair = NONE;
        int bestLine = 0;
        int bestLesser = -1;
        private int allHill = 0;
        private int allSea = 0;

        void judge(Wold told) {
            if (known) {
                return;
            }
            allHill = 0;
            allSea = 0;
            for (int c = 0; c < told.columns; c++) {
                allHill += told.hill[c] * FIELDS;
                allSea += told.sea[c] * FIELDS;
            }
            fairOnes = 0;
            firstFair = NONE;
            bestLine = 0;
            bestLesser = -1;
            drawFrom(this, told, 0, 0, 0, 0);
            known = true;
        }

        /** Draws on from column c in every way, the least line as a number first. */
        private static void drawFrom(Lines into, Wold told, int c, int line, int hillHas, int seaHas) {
            if (c >= MOST_COLUMNS || c >= told.columns) {
                into.judgeOne(line, hillHas, seaHas);
                return;
            }
            int neighbour = line % 10;
            int lowest = c == 0 ? 0 : Math.max(neighbour - 1, 0);
            int highest = c == 0 ? FIELDS : Math.min(neighbour + 1, FIELDS);
            for (int at = lowest; at <= highest; at++) {
                drawFrom(into, told, c + 1, line * 10 + at,
                    hillHas + told.hill[c] * (FIELDS - at), seaHas + told.sea[c] * at);
            }
        }

        private void judgeOne(int line, int hillHas, int seaHas) {
            if (2 * hillHas >= allHill && 2 * seaHas >= allSea) {
                if (fairOnes == 0) {
                    firstFair = line;
                }
                fairOnes++;
            }
            int lesser = Math.min(hillHas, seaHas);
            if (lesser > bestLesser) {
                bestLesser = lesser;
                bestLine = line;
            }
        }
    }
}
