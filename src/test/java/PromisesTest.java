/** For each promise of the document: ordinary answers worked out by hand, its edges, wrong inputs. */
public final class PromisesTest {
    private static final int BAD = -1, STATE = -2, FULL = -3, NONE = -9, NO = -1000000;
    private static final int LEAST = Integer.MIN_VALUE, MOST = Integer.MAX_VALUE;
    // heights 2 .. 9, 4 .. 11, 0 .. 7; on day 0 it is 8, then 5, then 12
    private static final String WOLD = "c2 3 1;c4 2 2;c0 1 5;g3;h1 5;v3 1;v2 0;v2 1;d8;d5;d12;";
    private static int wrong = 0;
    private static String promise = "";

    private static void due(String call, long got, long want) {
        if (got != want) {
            wrong++;
            System.out.println(promise + ": " + call + " answered " + got + ", due is " + want);
        }
    }

    private static int tell(SleetLine x, String text) {
        for (int i = 0; i < text.length(); i++) {
            x.type(text.charAt(i));
        }
        return x.wold();
    }

    private static SleetLine told(String text) {
        SleetLine x = new SleetLine();
        int items = tell(x, text);
        if (items < 0) {
            wrong++;
            System.out.println(promise + ": the text " + text + " was not read: " + items);
        }
        return x;
    }

    /** Everything that can be asked without a change, but for the trace, as one text. */
    private static String all(SleetLine x) {
        StringBuilder s = new StringBuilder();
        for (int what = 0; what < 8; what++) {
            s.append(x.now(what)).append(' ').append(x.count(what)).append(' ');
        }
        for (int c = 0; c < 8; c++) {
            for (int what = 0; what < 10; what++) {
                s.append(x.column(c, what)).append(' ');
            }
            for (int v = 0; v < 2; v++) {
                s.append(x.voter(c, v)).append(' ');
            }
        }
        s.append(x.fair(0)).append(' ').append(x.best(0)).append(' ');
        s.append(x.warmth(0)).append(' ').append(x.warmth(1)).append(' ').append(x.ask()).append(' ');
        s.append(x.trace());
        return s.toString();
    }

    private static void same(String call, String before, SleetLine x) {
        String after = all(x);
        if (!after.equals(before)) {
            wrong++;
            System.out.println(promise + ": " + call + " changed " + before + " to " + after);
        }
    }

    public static void main(String[] args) {
        constants();
        newObject();
        type();
        clear();
        wold();
        faults();
        woldReadAnew();
        woldReadSmaller();
        bytesOfOldTexts();
        column();
        field();
        voter();
        days();
        warms();
        stakes();
        pulls();
        undo();
        now();
        first();
        fair();
        best();
        power();
        duel();
        odds();
        hears();
        forget();
        warmth();
        ask();
        mark();
        keep();
        back();
        count();
        trace();
        refusedChangesNothing();
        System.out.println(wrong == 0 ? "all promises are kept" : wrong + " answers are not as due");
        if (wrong != 0) {
            System.exit(1);
        }
    }

    private static void constants() {
        promise = "the constants";
        due("BAD", SleetLine.BAD, -1);
        due("STATE", SleetLine.STATE, -2);
        due("FULL", SleetLine.FULL, -3);
        due("NONE", SleetLine.NONE, -9);
        due("NO", SleetLine.NO, -1000000);
    }

    private static void newObject() {
        promise = "1 a new object";
        SleetLine x = new SleetLine();
        int[] counts = {0, 0, 0, 2, 0, 0, 0};
        for (int what = 0; what < counts.length; what++) {
            due("count(" + what + ")", x.count(what), counts[what]);
        }
        for (int what = 0; what < 8; what++) {
            due("now(" + what + ")", x.now(what), 0);
        }
        due("column(0, 0)", x.column(0, 0), BAD);
        due("field(0, 0, 0)", x.field(0, 0, 0), NO);
        due("voter(0, 0)", x.voter(0, 0), BAD);
        due("first(0, 0)", x.first(0, 0), BAD);
        due("stakes(0)", x.stakes(0), BAD);
        due("undo()", x.undo(), STATE);
        due("back(0)", x.back(0), STATE);
        due("back(1)", x.back(1), STATE);
        due("warmth(0)", x.warmth(0), 40);
        due("trace()", x.trace(), 0);
        // GAP 2, HANDS 0 and 3 at first: told of columns and days alone
        tell(x, "c0 0 0;d9;");
        due("count(3)", x.count(3), 2);
        due("column(0, 6)", x.column(0, 6), 8);
        due("column(0, 7)", x.column(0, 7), 6);
        due("column(0, 4)", x.column(0, 4), 7);
    }

    private static void type() {
        promise = "2 type";
        SleetLine x = new SleetLine();
        due("type(-1)", x.type(-1), BAD);
        due("type(256)", x.type(256), BAD);
        due("type(least)", x.type(LEAST), BAD);
        due("type(most)", x.type(MOST), BAD);
        due("type(0)", x.type(0), 1);
        due("type(255)", x.type(255), 2);
        for (int i = 3; i <= 140; i++) {
            due("type(32) for the " + i + "th", x.type(32), i);
        }
        due("type(32) for the 141st", x.type(32), FULL);
        due("type(256) when full", x.type(256), BAD);
        due("count(6)", x.count(6), 140);
        due("wold()", x.wold(), -10);
        x.clear();
        for (int i = 0; i < 140; i++) {
            x.type(32);
        }
        due("wold() of 140 blanks", x.wold(), 0);
    }

    private static void clear() {
        promise = "3 clear";
        SleetLine x = told(WOLD);
        due("clear()", x.clear(), 0);
        x.type('c');
        x.type('1');
        due("clear()", x.clear(), 2);
        due("count(6)", x.count(6), 0);
        due("count(0)", x.count(0), 3);
        due("clear()", x.clear(), 0);
        due("type(99)", x.type(99), 1);
        due("wold() of c", x.wold(), -11);
    }

    private static void wold() {
        promise = "4 wold";
        SleetLine x = new SleetLine();
        due("wold() of nothing", x.wold(), 0);
        due("wold()", tell(x, WOLD), 11);
        due("count(0)", x.count(0), 3);
        due("count(1)", x.count(1), 3);
        due("count(2)", x.count(2), 3);
        due("count(3)", x.count(3), 3);
        due("count(6)", x.count(6), 0);
        due("blanks", tell(x, "  c  9 0   9 ;  g 6;h 0 9 ; v9 0;d 30  ;  "), 5);
        due("column(0, 0)", x.column(0, 0), 9);
        due("column(0, 2)", x.column(0, 2), 9);
        due("count(3)", x.count(3), 6);
        due("voter(0, 0)", x.voter(0, 0), 9);
        due("now(1)", x.now(1), 30);
        due("no blanks needed at letters", tell(x, "d0;d1;d2;d3;d4;d5;d6;d7;"), 8);
        due("count(2)", x.count(2), 8);
        due("six voters", tell(x, "v1 0;v1 0;v1 0;v1 0;v1 0;v1 0;"), 6);
        due("eight columns", tell(x, "c0 0 0;c0 0 0;c0 0 0;c0 0 0;c0 0 0;c0 0 0;c0 0 0;c0 0 9;"), 8);
        due("column(7, 2)", x.column(7, 2), 9);
        due("nothing", x.wold(), 0);
        due("count(0)", x.count(0), 0);
        due("count(3)", x.count(3), 2);
    }

    private static void fault(String text, int place) {
        SleetLine x = told(WOLD);
        x.warms(1);
        x.hears(0, 0, 0, 1);
        x.keep(0);
        for (int i = 0; i < text.length(); i++) {
            x.type(text.charAt(i));
        }
        String before = all(x);
        due("wold() of " + text, x.wold(), -10 - place);
        same("wold() of " + text, before, x);
        due("wold() of " + text + " again", x.wold(), -10 - place);
        due("back(0)", x.back(0), 0);
        due("clear() of " + text, x.clear(), text.length());
    }

    private static void faults() {
        promise = "4 wold, faults";
        fault("c", 1);
        fault("c ", 2);
        fault("c1 2", 4);
        fault("c1 2 3", 6);
        fault("c1 2 3  ", 8);
        fault("c1 2 3 4;", 7);
        fault("c1 2;", 4);
        fault("c 10 0 0;", 2);
        fault("c0 10 0;", 3);
        fault("c0 0 10;", 5);
        fault("c0 0 0 c0 0 0;", 7);
        fault("cc0 0 0;", 0);
        fault("cd;", 0);
        fault("x;", 0);
        fault("d1;xyz;", 3);
        fault("7;", 0);
        // 99 is the byte of c
        fault("99 0 0 0;", 0);
        fault(";", 0);
        fault("d1;;", 3);
        fault("g0;", 1);
        fault("g7;", 1);
        fault("g1;g1;", 3);
        fault("g1 2;", 3);
        fault("h0;", 2);
        fault("h10 0;", 1);
        fault("h0 10;", 3);
        fault("h1 1;h1 1;", 5);
        fault("v0 1;", 1);
        fault("v10 1;", 1);
        fault("v1 2;", 3);
        fault("v1;", 2);
        fault("d31;", 1);
        fault("d99;", 1);
        fault("d100;", 1);
        fault("d99999999999999999999;", 1);
        fault("d4294967296;", 1);
        fault("d00;", 1);
        fault("d01;", 1);
        fault("d000;", 1);
        fault("dd1;", 0);
        fault("dz1;", 0);
        fault("za1;", 0);
        fault("da1;", 0);
        fault("D1;", 0);
        fault("d-1;", 1);
        fault("d1,", 2);
        fault("d1\t;", 2);
        fault("d\u00ff1;", 1);
        fault("\u0000", 0);
        fault("; A", 0);
        fault("d1; 01", 4);
        fault("d0;d1;d2;d3;d4;d5;d6;d7; d8;", 25);
        fault("v1 0;v1 0;v1 0;v1 0;v1 0;v1 0;v", 30);
        fault("c0 0 0;c0 0 0;c0 0 0;c0 0 0;c0 0 0;c0 0 0;c0 0 0;c0 0 9;c", 56);
    }

    private static void woldReadAnew() {
        promise = "4 wold, read anew";
        SleetLine x = told(WOLD);
        x.days(2);
        x.warms(2);
        x.stakes(1);
        x.hears(1, 2, 3, 0);
        x.keep(0);
        x.keep(1);
        x.mark(0, 0);
        due("fair(0), of the old columns", x.fair(0), 2);
        due("wold()", tell(x, "c1 1 1;c1 1 1;d3;"), 3);
        due("now(0)", x.now(0), 0);
        due("now(1)", x.now(1), 3);
        due("now(2)", x.now(2), 0);
        due("now(6)", x.now(6), 0);
        due("column(1, 5)", x.column(1, 5), NONE);
        due("count(1)", x.count(1), 0);
        due("count(3)", x.count(3), 2);
        due("count(4)", x.count(4), 0);
        due("count(5)", x.count(5), 0);
        due("warmth(0)", x.warmth(0), 40);
        due("undo()", x.undo(), STATE);
        due("back(0)", x.back(0), STATE);
        due("back(1)", x.back(1), STATE);
        due("column(0, 6)", x.column(0, 6), 2);
        due("column(0, 7)", x.column(0, 7), 0);
        due("fair(0), of the new columns", x.fair(0), 1);
        due("fair(1), of the new columns", x.fair(1), 44);
        due("trace()", x.trace(), 1);
    }

    /** Nothing of earlier, greater texts may show. */
    private static void woldReadSmaller() {
        promise = "4 wold, read smaller";
        String great = "c0 9 9;c0 9 9;c0 9 9;h7 8;g6;v9 1;v9 1;v9 1;d30;d29;d28;";
        SleetLine x = told(great);
        tell(x, great);
        tell(x, great);
        x.stakes(0);
        x.fair(0);
        x.best(0);
        tell(x, "c9 1 1;v1 0;d9;");
        due("column(0, 5)", x.column(0, 5), NONE);
        due("column(0, 6)", x.column(0, 6), 0);
        due("now(3)", x.now(3), 8);
        due("now(4)", x.now(4), 0);
        due("now(5)", x.now(5), 0);
        due("now(7)", x.now(7), -1);
        due("power(0, 0)", x.power(0, 0), 1);
        due("power(0, 1)", x.power(0, 1), 1);
        due("fair(0)", x.fair(0), 1);
        due("fair(1)", x.fair(1), 4);
        due("best(0)", x.best(0), 4);
        due("best(1)", x.best(1), 4);
        due("days(1)", x.days(1), 9);
        x.warms(2);
        due("HANDS as at first", x.column(0, 6), 2);
        due("HANDS as at first", x.column(0, 7), 0);
        tell(x, "h9 0;");
        tell(x, "c0 0 0;d8;h9 0;");
        due("h told with 0", x.column(0, 7), 8);
        tell(x, "c0 0 0;d8;h9 1;");
        tell(x, "c0 0 0;d7;");
        due("HANDS as at first", x.column(0, 6), 7);
        due("HANDS as at first", x.column(0, 7), 4);
    }

    private static void bytesOfOldTexts() {
        promise = "4 wold, bytes of old texts";
        SleetLine x = new SleetLine();
        due("dd", tell(x, "dd"), -10);
        x.clear();
        due("d", tell(x, "d"), -11);
        x.clear();
        due("d12", tell(x, "d12"), -13);
        x.clear();
        due("d1", tell(x, "d1"), -12);
    }

    private static void column() {
        promise = "5 column";
        SleetLine x = told(WOLD);
        int[][] want = {{2, 3, 1, 6, 3, NONE, 5, 1, 2, 3}, {4, 2, 2, 4, 1, NONE, 3, 0, 1, 2},
            {0, 1, 5, 8, 5, NONE, 7, 3, 4, 3}};
        for (int c = 0; c < want.length; c++) {
            for (int what = 0; what < 10; what++) {
                due("column(" + c + ", " + what + ")", x.column(c, what), want[c][what]);
            }
        }
        x.stakes(0);
        due("column(0, 5)", x.column(0, 5), 2);
        due("column(3, 0)", x.column(3, 0), BAD);
        due("column(-1, 0)", x.column(-1, 0), BAD);
        due("column(0, -1)", x.column(0, -1), BAD);
        due("column(0, 10)", x.column(0, 10), BAD);
        due("column(least, most)", x.column(LEAST, MOST), BAD);
        due("column(8, 5)", x.column(8, 5), BAD);
        // WALKER 0 from 8 to 0: 4, then the other 2, then 3, 3
        SleetLine apart = told("c0 0 0;h0 9;d8;");
        due("claim of 0", apart.column(0, 6), 8);
        due("claim of 1", apart.column(0, 7), 0);
        due("where", apart.column(0, 8), 3);
        due("comings", apart.column(0, 9), 4);
        // WALKER 0 at 2, the other at 5: 4, then 4
        SleetLine three = told("c0 0 0;h5 2;d7;");
        due("where", three.column(0, 8), 4);
        due("comings", three.column(0, 9), 2);
        SleetLine alike = told("c0 0 0;h4 4;d6;");
        due("where", alike.column(0, 8), 2);
        due("comings", alike.column(0, 9), 0);
        SleetLine beside = told("c0 0 0;h4 5;d6;");
        due("where", beside.column(0, 8), 1);
        due("comings", beside.column(0, 9), 1);
        SleetLine hot = told("c0 0 0;d30;");
        due("no EDGE", hot.column(0, 3), 8);
        due("no WET", hot.column(0, 4), 8);
        due("no CLAIM", hot.column(0, 6), 8);
        SleetLine cold = told("c9 0 0;d0;");
        due("EDGE", cold.column(0, 3), 0);
        due("WET", cold.column(0, 4), 0);
    }

    private static void field() {
        promise = "6 field";
        SleetLine x = told(WOLD);
        int[][] want = {{6, 0, 0, 0}, {5, 0, 0, 1}, {4, 0, 0, 1}, {3, 1, 0, 1}, {2, 1, 0, 1}, {1, 1, 1, 1},
            {0, 2, 1, 1}, {-1, 2, 1, 1}};
        for (int f = 0; f < 8; f++) {
            for (int what = 0; what < 4; what++) {
                due("field(0, " + f + ", " + what + ")", x.field(0, f, what), want[f][what]);
            }
        }
        x.warms(-3);
        due("field(1, 0, 0)", x.field(1, 0, 0), 1);
        x.days(1);
        due("field(1, 0, 0)", x.field(1, 0, 0), -2);
        due("field(3, 0, 0)", x.field(3, 0, 0), NO);
        due("field(-1, 0, 0)", x.field(-1, 0, 0), NO);
        due("field(0, 8, 0)", x.field(0, 8, 0), NO);
        due("field(0, -1, 0)", x.field(0, -1, 0), NO);
        due("field(0, 0, 4)", x.field(0, 0, 4), NO);
        due("field(0, 0, -1)", x.field(0, 0, -1), NO);
        due("field(most, least, most)", x.field(MOST, LEAST, MOST), NO);
    }

    private static void voter() {
        promise = "7 voter";
        SleetLine x = told(WOLD);
        int[][] want = {{3, 1}, {2, 0}, {2, 1}};
        for (int v = 0; v < 3; v++) {
            due("voter(" + v + ", 0)", x.voter(v, 0), want[v][0]);
            due("voter(" + v + ", 1)", x.voter(v, 1), want[v][1]);
        }
        due("voter(3, 0)", x.voter(3, 0), BAD);
        due("voter(-1, 0)", x.voter(-1, 0), BAD);
        due("voter(0, 2)", x.voter(0, 2), BAD);
        due("voter(0, -1)", x.voter(0, -1), BAD);
        due("voter(most, 0)", x.voter(MOST, 0), BAD);
    }

    private static void days() {
        promise = "8 days";
        SleetLine x = told(WOLD);
        due("days(1)", x.days(1), 5);
        due("days(1)", x.days(1), 12);
        due("days(1), day 0 again", x.days(1), 8);
        due("days(9)", x.days(9), 8);
        due("now(0)", x.now(0), 12);
        due("days(0)", x.days(0), BAD);
        due("days(10)", x.days(10), BAD);
        due("days(-1)", x.days(-1), BAD);
        due("days(most)", x.days(MOST), BAD);
        due("undo(), nine together", x.undo(), 3);
        due("now(0)", x.now(0), 3);
        due("days of none", new SleetLine().days(5), 0);
        // More calls than are promised, to come to the last day at all.
        SleetLine late = new SleetLine();
        for (int i = 0; i < 1111; i++) {
            due("days(9)", late.days(9), 0);
        }
        due("now(0)", late.now(0), 9999);
        due("days(1) beyond 9999", late.days(1), STATE);
        due("days(0)", late.days(0), BAD);
        late.undo();
        due("now(0)", late.now(0), 9990);
        due("days(8)", late.days(8), 0);
        due("days(2)", late.days(2), STATE);
        due("days(1)", late.days(1), 0);
    }

    private static void warms() {
        promise = "9 warms";
        SleetLine x = told(WOLD);
        due("warms(1)", x.warms(1), 1 + 3);
        due("warms(-2)", x.warms(-2), 3 + 5 + 1);
        due("warms(3)", x.warms(3), 0 + 2);
        due("now(2)", x.now(2), 2);
        due("warms(0)", x.warms(0), BAD);
        due("warms(4)", x.warms(4), BAD);
        due("warms(-4)", x.warms(-4), BAD);
        due("warms(least)", x.warms(LEAST), BAD);
        x.warms(3);
        x.warms(3);
        due("now(2)", x.now(2), 8);
        due("warms(2) beyond 9", x.warms(2), STATE);
        due("now(2)", x.now(2), 8);
        due("warms(1) to 9", x.warms(1), 0);
        due("warms(1) beyond 9", x.warms(1), STATE);
        due("warms(4)", x.warms(4), BAD);
        for (int i = 0; i < 6; i++) {
            x.warms(-3);
        }
        due("now(2)", x.now(2), -9);
        due("now(3), all", x.now(3), 24);
        due("warms(-1) beyond -9", x.warms(-1), STATE);
    }

    private static void stakes() {
        promise = "10 stakes";
        SleetLine x = told(WOLD);
        due("stakes(0)", x.stakes(0), 2);
        due("stakes(0) again", x.stakes(0), STATE);
        due("count(5)", x.count(5), 1);
        due("stakes(1)", x.stakes(1), 1);
        due("now(6)", x.now(6), 2);
        x.days(1);
        // WARM 5: claims 2 and 0 of heights 2 ..: they meet at 1
        due("stakes(0) in its place", x.stakes(0), 1);
        due("column(0, 5)", x.column(0, 5), 1);
        due("now(6)", x.now(6), 2);
        due("stakes(3)", x.stakes(3), BAD);
        due("stakes(-1)", x.stakes(-1), BAD);
        due("stakes(most)", x.stakes(MOST), BAD);
        SleetLine hot = told("c0 0 0;d30;");
        due("stakes(0) at 8", hot.stakes(0), 8);
        due("column(0, 5)", hot.column(0, 5), 8);
        SleetLine cold = told("c9 0 0;");
        due("stakes(0) at 0", cold.stakes(0), 0);
        due("now(6)", cold.now(6), 1);
    }

    private static void pulls() {
        promise = "11 pulls";
        SleetLine x = told(WOLD);
        due("pulls(0)", x.pulls(0), STATE);
        x.stakes(0);
        x.stakes(2);
        x.days(2);
        due("pulls(0)", x.pulls(0), 2);
        due("column(0, 5)", x.column(0, 5), NONE);
        due("now(6)", x.now(6), 1);
        due("pulls(0) again", x.pulls(0), STATE);
        due("pulls(2)", x.pulls(2), 4);
        due("pulls(3)", x.pulls(3), BAD);
        due("pulls(-1)", x.pulls(-1), BAD);
        due("count(5)", x.count(5), 5);
        x.undo();
        due("column(2, 5)", x.column(2, 5), 4);
        SleetLine cold = told("c9 0 0;");
        cold.stakes(0);
        due("pulls(0) of one at 0", cold.pulls(0), 0);
    }

    private static void undo() {
        promise = "12 undo";
        SleetLine x = told(WOLD);
        due("undo() of nothing", x.undo(), STATE);
        x.stakes(0);
        x.days(1);
        x.stakes(0);
        x.warms(-2);
        x.pulls(0);
        x.days(4);
        due("undo() of days", x.undo(), 5);
        due("now(0)", x.now(0), 1);
        due("undo() of pulls", x.undo(), 4);
        due("column(0, 5)", x.column(0, 5), 1);
        due("undo() of warms", x.undo(), 3);
        due("now(2)", x.now(2), 0);
        due("undo() of stakes in its place", x.undo(), 2);
        due("column(0, 5)", x.column(0, 5), 2);
        due("undo() of days", x.undo(), 1);
        due("now(0)", x.now(0), 0);
        due("undo() of stakes", x.undo(), 0);
        due("column(0, 5)", x.column(0, 5), NONE);
        due("undo()", x.undo(), STATE);
        x.warms(3);
        for (int i = 0; i < 11; i++) {
            x.days(i % 3 + 1);
        }
        due("count(5), ten are known", x.count(5), 10);
        for (int i = 9; i >= 0; i--) {
            due("undo()", x.undo(), i);
        }
        due("now(0)", x.now(0), 1);
        due("now(2)", x.now(2), 3);
        due("undo(), older ones are lost", x.undo(), STATE);
        SleetLine many = told(WOLD);
        many.warms(1);
        many.stakes(0);
        many.stakes(1);
        many.stakes(2);
        for (int i = 0; i < 8; i++) {
            many.days(1);
        }
        due("column(1, 5)", many.column(1, 5), 1);
        for (int i = 0; i < 8; i++) {
            many.undo();
        }
        due("undo() of the stake at 2", many.undo(), 1);
        due("column(2, 5)", many.column(2, 5), NONE);
        due("undo() of the stake at 1", many.undo(), 0);
        due("column(1, 5)", many.column(1, 5), NONE);
        due("column(0, 5)", many.column(0, 5), 3);
        x.hears(0, 0, 0, 1);
        x.days(1);
        x.hears(0, 0, 1, 1);
        x.undo();
        due("count(4), nothing else is undone", x.count(4), 2);
        x.days(1);
        x.days(0);
        x.warms(0);
        x.pulls(0);
        due("count(5), refused ones are none", x.count(5), 1);
    }

    private static void now() {
        promise = "13 now";
        SleetLine x = told(WOLD);
        int[] want = {0, 8, 0, 2 + 4, 3 + 1 + 5, 3, 0, 3};
        for (int what = 0; what < 8; what++) {
            due("now(" + what + ")", x.now(what), want[what]);
        }
        x.stakes(0);
        x.days(2);
        x.warms(-2);
        int[] then = {2, 12, -2, 2, 5 + 3 + 7, 3, 1, 3};
        for (int what = 0; what < 8; what++) {
            due("now(" + what + ")", x.now(what), then[what]);
        }
        due("now(-1)", x.now(-1), NO);
        due("now(8)", x.now(8), NO);
        due("now(least)", x.now(LEAST), NO);
        due("vote below 0", told("v9 0;v1 1;").now(7), -8);
        due("WIDEST of a column in sleet", told("c0 0 0;g6;d6;").now(5), 6);
        due("WIDEST where one has none", told("c0 0 0;c9 0 0;g4;d8;").now(5), 4);
    }

    private static void first() {
        promise = "14 first";
        SleetLine x = told(WOLD);
        due("first(0, 6)", x.first(0, 6), 0);
        due("first(0, 3)", x.first(0, 3), 1);
        due("first(0, 2)", x.first(0, 2), NONE);
        due("first(2, 7)", x.first(2, 7), 1);
        x.days(2);
        due("first(0, 6)", x.first(0, 6), 1);
        due("first(0, 3)", x.first(0, 3), 2);
        due("first(1, 7)", x.first(1, 7), 1);
        x.warms(-1);
        due("first(1, 7)", x.first(1, 7), 0);
        due("first(0, 2)", x.first(0, 2), 2);
        due("first(0, 1)", x.first(0, 1), NONE);
        due("now(0), nothing is changed", x.now(0), 2);
        due("first(3, 0)", x.first(3, 0), BAD);
        due("first(0, 8)", x.first(0, 8), BAD);
        due("first(0, -1)", x.first(0, -1), BAD);
        due("first(-1, 0)", x.first(-1, 0), BAD);
        SleetLine none = told("c0 0 0;");
        due("first without days", none.first(0, 0), 0);
        none.warms(1);
        due("first without days", none.first(0, 0), NONE);
        due("first of eight days", told("c0 0 0;d9;d9;d9;d9;d9;d9;d9;d0;").first(0, 0), 7);
    }

    private static void fair() {
        promise = "15 fair";
        SleetLine x = told(WOLD);
        due("fair(0)", x.fair(0), 2);
        due("fair(1)", x.fair(1), 345);
        due("fair(0) again", x.fair(0), 2);
        due("fair(2)", x.fair(2), BAD);
        due("fair(-1)", x.fair(-1), BAD);
        due("fair(least)", x.fair(LEAST), BAD);
        // one column: 8 - n >= 4 and n >= 4
        SleetLine one = told("c0 5 5;");
        due("fair(0)", one.fair(0), 1);
        due("fair(1)", one.fair(1), 4);
        SleetLine sea = told("c0 0 1;");
        due("fair(0), 4 .. 8", sea.fair(0), 5);
        due("fair(1)", sea.fair(1), 4);
        SleetLine nothing = told("c0 0 0;c0 0 0;");
        due("fair(0), every line", nothing.fair(0), 25);
        due("fair(1)", nothing.fair(1), 0);
        SleetLine zeroAhead = told("c0 9 0;c0 0 0;");
        due("fair(1), 00", zeroAhead.fair(1), 0);
        due("fair(0), the first 0 .. 4", zeroAhead.fair(0), 2 + 3 + 3 + 3 + 3);
        // 8 and 0 would be most fair, but they are not neighbours: 4 and 4 alone is left
        SleetLine crosswise = told("c0 8 9;c0 9 8;");
        due("fair(0)", crosswise.fair(0), 1);
        due("fair(1)", crosswise.fair(1), 44);
        SleetLine hard = told("c0 9 9;c0 9 9;c0 9 9;c0 9 9;c0 9 9;c0 9 9;c0 9 9;c0 9 9;");
        due("fair(1) of eight columns", hard.fair(1), 12344567);
    }

    private static void best() {
        promise = "16 best";
        SleetLine x = told(WOLD);
        due("best(0)", x.best(0), 334);
        due("best(1)", x.best(1), 29);
        due("best(2)", x.best(2), BAD);
        due("best(-1)", x.best(-1), BAD);
        SleetLine none = new SleetLine();
        due("best(0) of none", none.best(0), 0);
        due("best(1) of none", none.best(1), 0);
        SleetLine one = told("c0 2 1;");
        // 2 * (8 - n) and n: 5 gives 6 and 5, 6 gives 4 and 6
        due("best(0)", one.best(0), 5);
        due("best(1)", one.best(1), 5);
        SleetLine nothing = told("c0 0 9;c0 0 9;");
        due("best(0), the first of all", nothing.best(0), 0);
        due("best(1)", nothing.best(1), 0);
        SleetLine flat = told("c0 1 0;c0 0 1;");
        // 8 - a and b, b at most a + 1: a 3, b 4 gives 5 and 4; a 4, b 5 gives 4 and 5
        due("best(0), of several the first", flat.best(0), 34);
        due("best(1)", flat.best(1), 4);
    }

    private static void power() {
        promise = "17 power";
        SleetLine x = told(WOLD);
        for (int v = 0; v < 3; v++) {
            due("power(" + v + ", 0)", x.power(v, 0), 1);
            due("power(" + v + ", 1)", x.power(v, 1), 3);
        }
        SleetLine strong = told("v3 1;v1 0;v1 0;");
        due("power(0, 0)", strong.power(0, 0), 1);
        due("power(0, 1)", strong.power(0, 1), 1);
        due("power(1, 0), in least terms", strong.power(1, 0), 0);
        due("power(1, 1), in least terms", strong.power(1, 1), 1);
        // half is not more than half: 2 of 4 needs one more
        SleetLine half = told("v2 1;v1 0;v1 0;");
        due("power(0, 0)", half.power(0, 0), 2);
        due("power(0, 1)", half.power(0, 1), 3);
        due("power(2, 0)", half.power(2, 0), 1);
        due("power(2, 1)", half.power(2, 1), 6);
        SleetLine six = told("v9 1;v1 0;v1 0;v1 1;v1 0;v1 1;");
        due("power(0, 0)", six.power(0, 0), 1);
        due("power(0, 1)", six.power(0, 1), 1);
        SleetLine five = told("v5 1;v1 0;v1 0;v1 1;v1 0;v1 1;");
        // all 10: the strong one decides wherever he is not the first
        due("power(0, 0)", five.power(0, 0), 5);
        due("power(0, 1)", five.power(0, 1), 6);
        due("power(5, 0)", five.power(5, 0), 1);
        due("power(5, 1)", five.power(5, 1), 30);
        due("power(6, 0)", five.power(6, 0), BAD);
        due("power(-1, 0)", five.power(-1, 0), BAD);
        due("power(0, 2)", five.power(0, 2), BAD);
        due("power(0, -1)", five.power(0, -1), BAD);
        due("power(0, 0) of none", new SleetLine().power(0, 0), BAD);
    }

    private static void duel() {
        promise = "18 duel";
        SleetLine x = told(WOLD);
        // snowy fields with EXTRA 0: 6; with -1: 3 + 5 + 1
        int[] want = {6, 9, 6, 9, 6, 9, 6};
        for (int n = 0; n < want.length; n++) {
            due("duel(" + n + ")", x.duel(n), want[n]);
        }
        due("now(2), nothing is changed", x.now(2), 0);
        due("duel(7)", x.duel(7), BAD);
        due("duel(-1)", x.duel(-1), BAD);
        due("duel(most)", x.duel(MOST), BAD);
        for (int i = 0; i < 3; i++) {
            x.warms(-3);
        }
        // WARM 12 and EXTRA -9: 3; the first one can't chill more, the other warms
        x.days(2);
        due("duel(0)", x.duel(0), 7 + 8 + 5);
        due("duel(1)", x.duel(1), 7 + 8 + 5);
        due("duel(2)", x.duel(2), 6 + 8 + 4);
        due("duel(3)", x.duel(3), 7 + 8 + 5);
        SleetLine warm = told("c9 0 0;d5;");
        for (int i = 0; i < 3; i++) {
            warm.warms(3);
        }
        due("duel(1)", warm.duel(1), 4);
        due("duel(2), 9 at most", warm.duel(2), 3);
    }

    private static void odds(SleetLine x, int f, int chance, int times, int upper, int lower) {
        String call = "odds(0, " + f + ", " + chance + ", " + times + ", ";
        due(call + "0)", x.odds(0, f, chance, times, 0), upper);
        due(call + "1)", x.odds(0, f, chance, times, 1), lower);
    }

    private static void odds() {
        promise = "19 odds";
        SleetLine x = told(WOLD);
        // of column 0, MILD is 6 .. -1 for the fields 0 .. 7
        odds(x, 6, 5, 0, 1, 1);
        odds(x, 5, 5, 0, 0, 1);
        odds(x, 5, 5, 1, 1, 2);
        odds(x, 6, 3, 1, 7, 10);
        odds(x, 6, 3, 2, 91, 100);
        odds(x, 4, 3, 2, 49, 100);
        odds(x, 5, 4, 3, 81, 125);
        odds(x, 0, 5, 6, 1, 64);
        odds(x, 0, 9, 6, 1, 1000000);
        odds(x, 0, 0, 6, 1, 1);
        odds(x, 0, 10, 6, 0, 1);
        odds(x, 7, 10, 1, 1, 1);
        odds(x, 7, 10, 2, 0, 1);
        due("odds(3, ..)", x.odds(3, 0, 5, 1, 0), BAD);
        due("odds(-1, ..)", x.odds(-1, 0, 5, 1, 0), BAD);
        due("odds(0, 8, ..)", x.odds(0, 8, 5, 1, 0), BAD);
        due("odds(0, -1, ..)", x.odds(0, -1, 5, 1, 0), BAD);
        due("odds of 11", x.odds(0, 0, 11, 1, 0), BAD);
        due("odds of -1", x.odds(0, 0, -1, 1, 0), BAD);
        due("odds of 7 times", x.odds(0, 0, 5, 7, 0), BAD);
        due("odds of -1 times", x.odds(0, 0, 5, -1, 0), BAD);
        due("odds, what is 2", x.odds(0, 0, 5, 1, 2), BAD);
        due("odds, what is -1", x.odds(0, 0, 5, 1, -1), BAD);
        SleetLine warm = told("c0 0 0;");
        for (int i = 0; i < 3; i++) {
            warm.warms(3);
        }
        // MILD of field 7 is 2: EXTRA beyond 9 counts, so one warmer, two colder is not yet snow
        odds(warm, 7, 5, 3, 1, 8);
        odds(warm, 7, 5, 4, 5, 16);
    }

    private static void hears() {
        promise = "20 hears";
        SleetLine x = told(WOLD);
        due("hears(-1, ..)", x.hears(-1, 0, 0, 0), BAD);
        due("hears(2, ..)", x.hears(2, 0, 0, 0), BAD);
        due("hears of column 3", x.hears(0, 3, 0, 0), BAD);
        due("hears of column -1", x.hears(0, -1, 0, 0), BAD);
        due("hears of field 8", x.hears(0, 0, 8, 0), BAD);
        due("hears of field -1", x.hears(0, 0, -1, 0), BAD);
        due("hears, snow is 2", x.hears(0, 0, 0, 2), BAD);
        due("hears, snow is -1", x.hears(0, 0, 0, -1), BAD);
        due("count(4)", x.count(4), 0);
        for (int i = 1; i <= 6; i++) {
            due("hears", x.hears(i % 2, i % 3, i, i % 2), i);
        }
        due("hears a seventh", x.hears(0, 0, 0, 1), FULL);
        due("hears a seventh, wrong", x.hears(0, 0, 8, 1), BAD);
        due("count(4)", x.count(4), 6);
        due("the same twice is two", told("c0 0 0;").hears(0, 0, 0, 1), 1);
    }

    private static void forget() {
        promise = "21 forget";
        SleetLine x = told(WOLD);
        due("forget()", x.forget(), 0);
        x.hears(0, 0, 0, 1);
        x.hears(0, 0, 0, 0);
        due("warmth(0)", x.warmth(0), 0);
        due("forget()", x.forget(), 2);
        due("count(4)", x.count(4), 0);
        due("warmth(0)", x.warmth(0), 40);
        due("warmth(1)", x.warmth(1), 0);
        due("hears", x.hears(0, 0, 0, 1), 1);
    }

    private static void warmth() {
        promise = "22 warmth";
        SleetLine x = told(WOLD);
        due("warmth(0)", x.warmth(0), 40);
        due("warmth(1)", x.warmth(1), 0);
        // field 3 of column 0 lies 5 high, HAND 1: SNOW up to 6
        x.hears(0, 0, 3, 1);
        due("warmth(0)", x.warmth(0), 7);
        due("warmth(1)", x.warmth(1), 0);
        // field 0 of column 2 lies 0 high, HAND 1: no SNOW from 2 on
        x.hears(0, 2, 0, 0);
        due("warmth(0)", x.warmth(0), 5);
        due("warmth(1)", x.warmth(1), 2);
        // HAND 5: SNOW up to 5
        x.hears(1, 2, 0, 1);
        due("warmth(0)", x.warmth(0), 4);
        x.days(2);
        x.warms(3);
        due("warmth(0), whatever the day", x.warmth(0), 4);
        x.hears(1, 2, 0, 0);
        due("warmth(0)", x.warmth(0), 0);
        due("warmth(1)", x.warmth(1), NONE);
        due("warmth(2)", x.warmth(2), BAD);
        due("warmth(-1)", x.warmth(-1), BAD);
        SleetLine high = told("c9 0 0;h9 9;");
        high.hears(0, 0, 7, 0);
        due("warmth(1), 26 .. 39", high.warmth(1), 26);
        due("warmth(0)", high.warmth(0), 14);
    }

    private static void ask() {
        promise = "23 ask";
        due("ask() without columns", new SleetLine().ask(), NONE);
        SleetLine x = told("c0 0 0;c5 0 0;h0 9;");
        // SNOW up to height and hand: 0 .. 7, 5 .. 12; 9 .. 16, 14 .. 21. Of 0 .. 39, 19 parts by halves.
        due("ask()", x.ask(), 115);
        x.hears(1, 1, 5, 1);
        // 0 .. 19: 9 parts by halves
        due("ask()", x.ask(), 14);
        x.hears(0, 1, 4, 0);
        // 10 .. 19: 14 parts by halves: column 0 to 16, column 1 from 14
        due("ask()", x.ask(), 105);
        x.hears(1, 0, 5, 1);
        // 10 .. 14: by 11 (2 and 3) or by 12; WALKER 0 says it of column 1, fields 6 and 7
        due("ask()", x.ask(), 16);
        x.hears(0, 1, 6, 1);
        due("ask() of 10, 11", x.ask(), 15);
        x.hears(0, 1, 5, 1);
        due("ask() of one", x.ask(), NONE);
        x.forget();
        x.hears(1, 1, 7, 0);
        due("warmth(0)", x.warmth(0), 18);
        due("ask(), none parts them", x.ask(), NONE);
        x.hears(1, 0, 0, 1);
        due("warmth(0)", x.warmth(0), 0);
        due("ask() of none", x.ask(), NONE);
        due("ask(), of several the least", told("c0 0 0;c0 0 0;h9 9;").ask(), 7);
        SleetLine low = told("c0 0 0;h0 0;");
        low.hears(0, 0, 1, 1);
        due("ask() of 0, 1", low.ask(), 0);
    }

    private static void mark() {
        promise = "24 mark";
        SleetLine x = told(WOLD);
        int[][] want = {{2, 5, 1, 10, 1, 8}, {4, 6, 2, 12, 3, 8}, {0, 1, -5, 2, -3, 8}};
        for (int c = 0; c < want.length; c++) {
            for (int kind = 0; kind < 6; kind++) {
                due("mark(" + kind + ", " + c + ")", x.mark(kind, c), want[c][kind]);
            }
        }
        x.warms(-3);
        due("mark(5, 0) by its EDGE now", x.mark(5, 0), 5);
        long before = x.trace();
        due("mark(6, 0)", x.mark(6, 0), NO);
        due("mark(-1, 0)", x.mark(-1, 0), NO);
        due("mark(0, 3)", x.mark(0, 3), NO);
        due("mark(0, -1)", x.mark(0, -1), NO);
        due("mark(most, least)", x.mark(MOST, LEAST), NO);
        due("trace()", x.trace(), before);
    }

    private static void keep() {
        promise = "25 keep";
        SleetLine x = told(WOLD);
        due("keep(-1)", x.keep(-1), BAD);
        due("keep(2)", x.keep(2), BAD);
        due("keep(most)", x.keep(MOST), BAD);
        due("keep(0)", x.keep(0), 0);
        x.days(7);
        due("keep(1)", x.keep(1), 7);
        due("back(0)", x.back(0), 0);
        due("back(1)", x.back(1), 7);
        x.days(1);
        due("keep(1) in its place", x.keep(1), 8);
        x.undo();
        due("back(1)", x.back(1), 8);
        due("count(5), keep is not undone", x.count(5), 2);
    }

    private static void back() {
        promise = "26 back";
        SleetLine x = told(WOLD);
        due("back(-1)", x.back(-1), BAD);
        due("back(2)", x.back(2), BAD);
        due("back(0)", x.back(0), STATE);
        x.stakes(0);
        x.days(4);
        x.warms(2);
        x.keep(1);
        due("back(0), the other was kept", x.back(0), STATE);
        x.pulls(0);
        x.stakes(2);
        x.days(5);
        x.warms(-3);
        x.hears(0, 0, 0, 1);
        x.type('c');
        x.mark(0, 0);
        due("back(1)", x.back(1), 4);
        due("now(2)", x.now(2), 2);
        due("column(0, 5)", x.column(0, 5), 2);
        due("column(2, 5)", x.column(2, 5), NONE);
        due("count(5)", x.count(5), 3);
        due("count(4), nothing else", x.count(4), 1);
        due("count(6), nothing else", x.count(6), 1);
        due("trace(), nothing else", x.trace(), 1);
        due("undo() of what the image has", x.undo(), 2);
        due("now(2)", x.now(2), 0);
        x.undo();
        due("now(0)", x.now(0), 0);
        x.undo();
        due("column(0, 5)", x.column(0, 5), NONE);
        x.days(3);
        x.stakes(1);
        x.pulls(1);
        x.stakes(2);
        due("back(1), it is kept still", x.back(1), 4);
        due("column(0, 5)", x.column(0, 5), 2);
        due("count(5)", x.count(5), 3);
        x.undo();
        due("now(2)", x.now(2), 0);
        x.undo();
        due("now(0)", x.now(0), 0);
        x.undo();
        due("column(0, 5)", x.column(0, 5), NONE);
        due("now(6)", x.now(6), 0);
        // a stake of another column, so that what is kept must hold the column too
        SleetLine y = told(WOLD);
        y.stakes(2);
        y.keep(0);
        y.undo();
        y.stakes(1);
        y.back(0);
        due("undo()", y.undo(), 0);
        due("column(1, 5)", y.column(1, 5), NONE);
        due("column(2, 5)", y.column(2, 5), NONE);
    }

    private static void count() {
        promise = "27 count";
        SleetLine x = told(WOLD);
        x.hears(0, 0, 0, 1);
        x.days(1);
        x.warms(1);
        x.type(';');
        x.type(';');
        x.type(';');
        int[] want = {3, 3, 3, 3, 1, 2, 3};
        for (int what = 0; what < want.length; what++) {
            due("count(" + what + ")", x.count(what), want[what]);
        }
        due("count(7)", x.count(7), BAD);
        due("count(-1)", x.count(-1), BAD);
        due("count(least)", x.count(LEAST), BAD);
        SleetLine y = told("c0 0 0;c0 0 0;v1 1;g5;d1;d2;d3;d4;");
        due("count(0)", y.count(0), 2);
        due("count(1)", y.count(1), 1);
        due("count(2)", y.count(2), 4);
        due("count(3)", y.count(3), 5);
    }

    private static void trace() {
        promise = "28 trace";
        SleetLine x = told(WOLD);
        due("trace()", x.trace(), 0);
        long[] more = {1, 11, 101, 1011, 10101, 100001};
        long sum = 0;
        for (int kind = 0; kind < 6; kind++) {
            x.mark(kind, 0);
            sum += more[kind];
            due("trace() behind mark(" + kind + ", 0)", x.trace(), sum);
        }
        x.column(0, 3);
        x.keep(0);
        x.days(1);
        x.undo();
        x.back(0);
        due("trace(), mark alone", x.trace(), sum);
        x.mark(9, 0);
        x.mark(0, 9);
        due("trace(), refused", x.trace(), sum);
        tell(x, WOLD);
        due("trace(), read anew", x.trace(), sum);
    }

    /** Calls that are refused, in a state where much is there to be changed. */
    private static void refusedChangesNothing() {
        promise = "refused";
        SleetLine x = told(WOLD);
        x.stakes(0);
        x.days(4);
        x.warms(3);
        x.warms(3);
        x.warms(3);
        for (int i = 0; i < 6; i++) {
            x.hears(0, 0, 7, 1);
        }
        x.keep(1);
        x.type('x');
        String before = all(x);
        x.type(-1);
        x.type(256);
        x.wold();
        x.days(0);
        x.days(10);
        x.warms(0);
        x.warms(1);
        x.warms(-4);
        x.stakes(3);
        x.pulls(1);
        x.pulls(3);
        x.hears(0, 0, 0, 0);
        x.hears(0, 0, 8, 0);
        x.mark(6, 0);
        x.mark(0, 3);
        x.keep(2);
        x.back(0);
        x.back(-1);
        same("what is refused", before, x);
        x.warms(-1);
        before = all(x);
        x.warms(2);
        x.first(0, 0);
        x.duel(6);
        x.odds(0, 0, 5, 6, 0);
        x.power(0, 0);
        same("what only asks", before, x);
    }
}
