import java.util.ArrayList;
import java.util.List;

/**
 * Each sentence of the document that names a boundary has a test of its own here, which bears the sentence's
 * words: at the boundary, one below it and one above it where there are such. What is due is written out or
 * reckoned from the words, never asked of the class. That what is refused changes nothing is RefusedTest's.
 */
public final class BoundariesTest {
    private static final int BAD = -1, STATE = -2, FULL = -3, NONE = -9, NO = -1000000;
    private static final int LEAST = Integer.MIN_VALUE, MOST = Integer.MAX_VALUE;
    private static int wrong = 0;
    private static int sentences = 0;
    private static String sentence = "";

    public static void main(String[] args) {
        terms();
        theText();
        faults();
        whatFalls();
        walkers();
        doings();
        undone();
        asked();
        lines();
        votes();
        heard();
        turnsAndOdds();
        kindsAndImages();
        readAnew();
        order();
        System.out.println(wrong == 0 ? sentences + " sentences hold" : wrong + " answers are not as due");
        if (wrong != 0) {
            System.exit(1);
        }
    }

    // ---- what the tests are made of

    /** Begins the test of a sentence. */
    private static void says(String words) {
        sentence = words;
        sentences++;
    }

    private static void due(String call, long got, long want) {
        if (got != want) {
            wrong++;
            System.out.println("\"" + sentence + "\": " + call + " answered " + got + ", due is " + want);
        }
    }

    private static void type(SleetLine x, String text) {
        for (int i = 0; i < text.length(); i++) {
            x.type(text.charAt(i));
        }
    }

    private static int tell(SleetLine x, String text) {
        type(x, text);
        return x.wold();
    }

    private static SleetLine told(String text) {
        SleetLine x = new SleetLine();
        int items = tell(x, text);
        if (items < 0) {
            wrong++;
            System.out.println("\"" + sentence + "\": the text " + text + " was not read: " + items);
        }
        return x;
    }

    /** wold() of a text that can't be read: where its fault is, and that it stays as it was. */
    private static void fault(String text, int place) {
        SleetLine x = told("c7 1 1;d4;");
        due("wold() of '" + text + "'", tell(x, text), -10 - place);
        due("count(0) behind the fault in '" + text + "'", x.count(0), 1);
        due("now(1) behind the fault in '" + text + "'", x.now(1), 4);
        due("clear() behind the fault in '" + text + "'", x.clear(), text.length());
    }

    private static void read(String text, int items) {
        SleetLine x = new SleetLine();
        due("wold() of '" + text + "'", tell(x, text), items);
        due("count(6) behind '" + text + "'", x.count(6), 0);
    }

    private static SleetLine warmedTo(SleetLine x, int extra) {
        int left = extra;
        for (int i = 0; i < 3 && left != 0; i++) {
            int step = Math.max(-3, Math.min(3, left));
            x.warms(step);
            left -= step;
        }
        due("EXTRA", x.now(2), extra);
        return x;
    }

    private static int clamp(int number, int least, int most) {
        return number < least ? least : number > most ? most : number;
    }

    private static String blanks(int many) {
        return " ".repeat(many);
    }

    // ---- 1: columns, voters, days

    private static void terms() {
        columnsAtMost();
        fieldsOfAColumn();
        numbersOfItems();
        heights();
        gap();
        hands();
        votersAtMost();
        daysAtMost();
        dayZeroAgain();
    }

    private static void columnsAtMost() {
        says("(8 at most), each of FIELDS 0 .. 7");
        StringBuilder text = new StringBuilder();
        for (int n = 0; n <= 8; n++) {
            SleetLine x = told(text.toString());
            due("count(0)", x.count(0), n);
            for (int c = 0; c < n; c++) {
                due("column(" + c + ", 0) of " + n, x.column(c, 0), c + 1);
                due("column(" + c + ", 1) of " + n, x.column(c, 1), 9 - c);
                due("column(" + c + ", 2) of " + n, x.column(c, 2), c);
            }
            due("column(-1, 0) of " + n, x.column(-1, 0), BAD);
            due("column(" + n + ", 0) of " + n, x.column(n, 0), BAD);
            due("column(" + (n + 1) + ", 0) of " + n, x.column(n + 1, 0), BAD);
            text.append('c').append(n + 1).append(' ').append(9 - n).append(' ').append(n).append(';');
        }
        fault("c0 0 0;".repeat(9), 56);
    }

    private static void fieldsOfAColumn() {
        says("each of FIELDS 0 .. 7, up from the sea");
        SleetLine x = told("c1 0 0;d9;");
        due("field(0, -1, 0)", x.field(0, -1, 0), NO);
        due("field(0, 0, 0)", x.field(0, 0, 0), 8);
        due("field(0, 7, 0)", x.field(0, 7, 0), 1);
        due("field(0, 8, 0)", x.field(0, 8, 0), NO);
        due("first(0, -1)", x.first(0, -1), BAD);
        due("first(0, 0)", x.first(0, 0), NONE);
        due("first(0, 7)", x.first(0, 7), NONE);
        due("first(0, 8)", x.first(0, 8), BAD);
        due("odds(0, -1, 0, 6, 0)", x.odds(0, -1, 0, 6, 0), BAD);
        due("odds(0, 0, 0, 6, 0)", x.odds(0, 0, 0, 6, 0), 0);
        due("odds(0, 7, 0, 6, 0)", x.odds(0, 7, 0, 6, 0), 1);
        due("odds(0, 8, 0, 6, 0)", x.odds(0, 8, 0, 6, 0), BAD);
        due("hears(0, 0, -1, 1)", x.hears(0, 0, -1, 1), BAD);
        due("hears(0, 0, 0, 1)", x.hears(0, 0, 0, 1), 1);
        due("hears(0, 0, 7, 1)", x.hears(0, 0, 7, 1), 2);
        due("hears(0, 0, 8, 1)", x.hears(0, 0, 8, 1), BAD);
    }

    /** One number of an item at its bounds: what is ahead of it and behind it in the item, and its place. */
    private static void bounds(String ahead, String behind, int least, int most) {
        for (int n = Math.max(0, least - 1); n <= most + 1; n++) {
            String text = ahead + n + behind;
            if (n < least || n > most) {
                fault(text, ahead.length());
            } else {
                read(text, 1);
            }
        }
        fault(ahead + "-1" + behind, ahead.length());
        fault(ahead + "99" + behind, ahead.length());
    }

    private static void numbersOfItems() {
        says("LOW (0 .. 9");
        bounds("c", " 5 5;", 0, 9);
        says("HILL (0 .. 9)");
        bounds("c5 ", " 5;", 0, 9);
        says("SEA (0 .. 9)");
        bounds("c5 5 ", ";", 0, 9);
        for (int n = 0; n <= 9; n++) {
            SleetLine x = told("c" + n + " " + (9 - n) + " " + n + ";");
            due("column(0, 0)", x.column(0, 0), n);
            due("column(0, 1)", x.column(0, 1), 9 - n);
            due("column(0, 2)", x.column(0, 2), n);
        }
        says("GAP (1 .. 6;");
        bounds("g", ";", 1, 6);
        says("HANDS of WALKERS 0, 1 (0 .. 9;");
        bounds("h", " 5;", 0, 9);
        bounds("h5 ", ";", 0, 9);
        says("WEIGHT (1 .. 9)");
        bounds("v", " 1;", 1, 9);
        says("WANTS (1 snow, 0 rain)");
        bounds("v5 ", ";", 0, 1);
        says("WARM (0 .. 30)");
        bounds("d", ";", 0, 30);
        for (int n = 0; n <= 30; n++) {
            due("now(1)", told("d" + n + ";").now(1), n);
        }
    }

    private static void heights() {
        says("how high FIELD 0 lies; each FIELD 1 higher than the one below");
        for (int low = 0; low <= 9; low++) {
            SleetLine x = told("c" + low + " 0 0;d30;");
            for (int f = 0; f <= 7; f++) {
                due("field(0, " + f + ", 0) with LOW " + low, x.field(0, f, 0), 30 - low - f);
            }
        }
        due("the least MILD", warmedTo(told("c9 0 0;d0;"), -9).field(0, 7, 0), -25);
        due("the greatest MILD", warmedTo(told("c0 0 0;d30;"), 9).field(0, 0, 0), 39);
    }

    private static void gap() {
        says("GAP (1 .. 6; 2 at first)");
        due("count(3) of a new object", new SleetLine().count(3), 2);
        due("count(3), g is not told", told("c0 0 0;d9;").count(3), 2);
        for (int g = 1; g <= 6; g++) {
            SleetLine x = told("c0 0 0;d7;g" + g + ";");
            due("count(3)", x.count(3), g);
            due("column(0, 4), GAP " + g, x.column(0, 4), 7 - g);
        }
    }

    private static void hands() {
        says("(0 .. 9; 0 and 3 at first)");
        SleetLine first = told("c0 0 0;d4;");
        // MILD is 4 .. -3
        due("field(0, 3, 2), MILD 1", first.field(0, 3, 2), 0);
        due("field(0, 4, 2), MILD 0", first.field(0, 4, 2), 1);
        due("field(0, 0, 3), MILD 4", first.field(0, 0, 3), 0);
        due("field(0, 1, 3), MILD 3", first.field(0, 1, 3), 1);
        for (int hand = 0; hand <= 9; hand++) {
            SleetLine x = told("c0 0 0;d10;h" + hand + " " + (9 - hand) + ";");
            for (int f = 0; f <= 7; f++) {
                due("field(0, " + f + ", 2), HAND " + hand, x.field(0, f, 2), 10 - f <= hand ? 1 : 0);
                due("field(0, " + f + ", 3), HAND " + (9 - hand), x.field(0, f, 3), 10 - f <= 9 - hand ? 1 : 0);
            }
        }
    }

    private static void votersAtMost() {
        says("VOTERS 0 .. (6 at most)");
        StringBuilder text = new StringBuilder();
        for (int n = 0; n <= 6; n++) {
            SleetLine x = told(text.toString());
            due("count(1)", x.count(1), n);
            for (int v = 0; v < n; v++) {
                due("voter(" + v + ", 0) of " + n, x.voter(v, 0), v + 4);
                due("voter(" + v + ", 1) of " + n, x.voter(v, 1), v % 2);
            }
            due("voter(-1, 0) of " + n, x.voter(-1, 0), BAD);
            due("voter(" + n + ", 0) of " + n, x.voter(n, 0), BAD);
            due("power(-1, 0) of " + n, x.power(-1, 0), BAD);
            due("power(" + n + ", 0) of " + n, x.power(n, 0), BAD);
            text.append('v').append(n + 4 > 9 ? 1 : n + 4).append(' ').append(n % 2).append(';');
        }
        fault("v1 0;".repeat(7), 30);
        due("the least WEIGHT", told("v1 0;").voter(0, 0), 1);
        due("the greatest WEIGHT", told("v9 0;").voter(0, 0), 9);
    }

    private static void daysAtMost() {
        says("DAYS 0 .. (8 at most)");
        for (int n = 0; n <= 8; n++) {
            SleetLine x = new SleetLine();
            due("wold() of " + n + " days", tell(x, "d3;".repeat(n)), n);
            due("count(2)", x.count(2), n);
        }
        fault("d3;".repeat(9), 24);
    }

    private static String daysFromOne(int many) {
        StringBuilder text = new StringBuilder();
        for (int d = 1; d <= many; d++) {
            text.append('d').append(d).append(';');
        }
        return text.toString();
    }

    private static void dayZeroAgain() {
        says("one behind the other, behind the last comes DAY 0 again");
        for (int many = 1; many <= 8; many++) {
            SleetLine x = told(daysFromOne(many));
            for (int day = 1; day <= 2 * many + 1; day++) {
                due("days(1) to day " + day + " of " + many, x.days(1), day % many + 1);
            }
            for (int n = 1; n <= 9; n++) {
                due("days(" + n + ") of " + many, told(daysFromOne(many)).days(n), n % many + 1);
            }
            // DAY 0 alone is cold: behind it, the wait is for the next DAY 0.
            SleetLine cold = told("c0 0 0;d0;" + "d9;".repeat(many - 1));
            due("first(0, 0) on DAY 0 of " + many, cold.first(0, 0), 0);
            cold.days(1);
            due("first(0, 0) on the day behind it", cold.first(0, 0), many - 1);
            cold.days(1);
            due("first(0, 0) two days behind it", cold.first(0, 0), (2 * many - 2) % many);
        }
    }

    // ---- the text

    private static void theText() {
        says("They are a text (140 bytes at most)");
        SleetLine x = new SleetLine();
        for (int i = 1; i <= 140; i++) {
            due("type(32), the " + i + "th", x.type(32), i);
        }
        due("type(32), the 141st", x.type(32), FULL);
        due("type(0), the 141st", x.type(0), FULL);
        due("type(255), the 141st", x.type(255), FULL);
        due("count(6)", x.count(6), 140);
        due("clear()", x.clear(), 140);
        due("type(32) then", x.type(32), 1);
        read(blanks(140), 0);
        read(blanks(137) + "g5;", 1);
        read("c1 2 3;".repeat(8) + "v4 1;".repeat(6) + "d9;".repeat(8) + "g5;h6 7;" + blanks(22), 24);
        aByte();
        clearedText();
        toldAndEmpty();
        blanksBetween();
        bytesOfTokens();
        itemsAsTold();
        onceAtMost();
    }

    private static void aByte() {
        says("A byte (0 .. 255) comes to THE TEXT: how many it has. BAD; FULL.");
        SleetLine x = new SleetLine();
        due("type(-1)", x.type(-1), BAD);
        due("type(0)", x.type(0), 1);
        due("type(1)", x.type(1), 2);
        due("type(254)", x.type(254), 3);
        due("type(255)", x.type(255), 4);
        due("type(256)", x.type(256), BAD);
        // the bytes of d and ; if only the lowest eight bits were looked at
        due("type(100 + 256)", x.type(100 + 256), BAD);
        due("type(59 - 256)", x.type(59 - 256), BAD);
        due("type(least)", x.type(LEAST), BAD);
        due("type(most)", x.type(MOST), BAD);
        due("count(6)", x.count(6), 4);
    }

    private static void clearedText() {
        says("THE TEXT is empty: how many bytes it had.");
        SleetLine x = new SleetLine();
        due("clear() of nothing", x.clear(), 0);
        x.type('d');
        due("clear() of one", x.clear(), 1);
        due("clear() again", x.clear(), 0);
        type(x, "d5;" + blanks(136));
        due("clear() of 139", x.clear(), 139);
        due("wold(), nothing of it is left", x.wold(), 0);
        due("count(2)", x.count(2), 0);
    }

    private static void toldAndEmpty() {
        says("THE TEXT tells all, and is empty then: how many ITEMS.");
        SleetLine x = new SleetLine();
        due("wold() of an empty text", x.wold(), 0);
        due("wold() of one item", tell(x, "d5;"), 1);
        due("count(6)", x.count(6), 0);
        due("type(100), the first of a new text", x.type('d'), 1);
        x.clear();
        due("wold() of an empty text", x.wold(), 0);
        due("count(2), there are none now", x.count(2), 0);
        // 24 items are the most: 8, 6, 8, g and h
        due("wold() of all", tell(x, "c0 0 0;".repeat(8) + "v1 0;".repeat(6) + "d0;".repeat(8) + "g1;h0 0;"), 24);
        due("wold() of all again", tell(x, "g1;h0 0;" + "d0;".repeat(8) + "v1 0;".repeat(6) + "c0 0 0;".repeat(8)), 24);
    }

    private static void blanksBetween() {
        says("read byte by byte, blanks (32) between TOKENS");
        read("c1 2 3;g4;", 2);
        read(" c1 2 3;g4;", 2);
        read("c1 2 3;g4; ", 2);
        read("   c   1   2   3   ;   g   4   ;   ", 2);
        read("g 4;", 1);
        read("d 12;", 1);
        fault("d1 2;", 3);
        fault("c12 3;", 1);
        fault("c1 23;", 3);
        for (int b = 0; b <= 255; b++) {
            String text = "d" + (char) b + "5;";
            if (b == ' ' || b == '1' || b == '2') {
                read(text, 1);
            } else {
                fault(text, b >= 'a' && b <= 'z' ? 0 : 1);
            }
        }
    }

    private static void bytesOfTokens() {
        says("TOKENS are letters a .. z side by side, NUMBERS and ; .");
        for (int b = 0; b <= 255; b++) {
            boolean letter = b >= 'a' && b <= 'z';
            boolean begins = "cghvd".indexOf(b) >= 0;
            String sign = String.valueOf((char) b);
            if (b == ' ') {
                read(sign, 0);
                read("d1;" + sign, 1);
            } else {
                fault(sign, begins ? 1 : 0);
                fault("d1;" + sign, begins ? 4 : 3);
            }
            // Letters side by side are one token: it begins with the first of them.
            fault("c" + sign, letter ? 0 : b == ' ' ? 2 : b >= '0' && b <= '9' ? 2 : 1);
            if (b == ';') {
                read("d1" + sign, 1);
            } else {
                fault("d1" + sign, b == ' ' || b >= '0' && b <= '9' ? 3 : 2);
            }
        }
    }

    private static void itemsAsTold() {
        says("ITEMS, each a letter and what is told, ended by ;");
        String[] items = {"c 1 2 3 ", "g 1 ", "h 1 2 ", "v 1 1 ", "d 1 "};
        for (String item : items) {
            read(item + ";", 1);
            read(item.replace(" ", "  ") + ";", 1);
            // one number less, one more, no end, an end too many
            fault(item.substring(0, item.length() - 2) + ";", item.length() - 2);
            fault(item + "1 ;", item.length());
            fault(item + "d1;", item.length());
            fault(item + ";;", item.length() + 1);
            fault(item.substring(0, 1) + ";", 1);
            fault(item.substring(0, item.length() - 2) + "d;", item.length() - 2);
            fault(item.substring(0, item.length() - 2) + "ab;", item.length() - 2);
            fault("1 " + item + ";", 0);
            fault(";" + item + ";", 0);
        }
        // 99 is the byte of c: a number begins no item, be it which it will.
        for (int n = 0; n <= 99; n++) {
            fault(n + " 1 1 1;", 0);
            fault("d1;" + n + " 1;", 3);
        }
    }

    private static void onceAtMost() {
        says("g and h once at most each.");
        read("g1;", 1);
        read("h1 1;", 1);
        read("g1;h1 1;", 2);
        read("h1 1;g1;", 2);
        fault("g1;g1;", 3);
        fault("g1;h1 1;g1;", 8);
        fault("h1 1;h1 1;", 5);
        fault("h1 1;g1;h1 1;", 8);
        fault("g1;g", 3);
        fault("h1 1;h", 5);
        fault("g0;g1;", 1);
        // in each text anew, be the one ahead of it read or not
        SleetLine x = told("g1;h1 1;");
        due("wold() of the next text", tell(x, "g2;h2 2;"), 2);
        due("wold(), g again", tell(x, "g3;h3 3;g3;"), -18);
        x.clear();
        due("wold() of the next text", tell(x, "g4;h4 4;"), 2);
        due("count(3)", x.count(3), 4);
    }

    // ---- faults

    private static void faults() {
        cantStandThere();
        beyondWhatItMayBe();
        noTokens();
        endsTooEarly();
        faultChangesNothing();
    }

    private static void cantStandThere() {
        says("the place of the first byte of the first TOKEN that can't stand there (letters that begin no ITEM, g or h again, "
            + "a ninth COLUMN or DAY, a seventh VOTER,");
        for (char letter = 'a'; letter <= 'z'; letter++) {
            if ("cghvd".indexOf(letter) < 0) {
                fault(letter + "1 1 1;", 0);
                fault("d1;" + letter, 3);
            }
            fault("c" + letter + "1 1 1;", 0);
            fault(letter + "d1;", 0);
            fault("d1; " + letter + "g1;", 4);
        }
        String columns = "c0 0 0;".repeat(8);
        read(columns, 8);
        fault(columns + "c0 0 0;", 56);
        fault(columns + "c", 56);
        fault(columns + " c100", 57);
        String voters = "v1 0;".repeat(6);
        read(voters, 6);
        fault(voters + "v1 0;", 30);
        fault(voters + "v", 30);
        fault(voters + "  v0", 32);
        String days = "d0;".repeat(8);
        read(days, 8);
        fault(days + "d0;", 24);
        fault(days + "d", 24);
        fault(days + " d31;", 25);
        read(columns + voters + days, 22);
        fault(days + voters + columns + "d0;", 110);
        // The first one counts, not a later one.
        fault("x;d31;", 0);
        fault("d31;x;", 1);
        fault("g1;g1;x", 3);
        fault("; A", 0);
        fault("A ;", 0);
        fault("d1;; 100", 3);
    }

    private static void beyondWhatItMayBe() {
        says("a NUMBER beyond what it may be, too)");
        fault("c10 0 0;", 1);
        fault("c 10 0 0;", 2);
        fault("c9 10 0;", 3);
        fault("c9 9 10;", 5);
        fault("g0;", 1);
        fault("g7;", 1);
        fault("h10 9;", 1);
        fault("h9 10;", 3);
        fault("v0 1;", 1);
        fault("v10 1;", 1);
        fault("v9 2;", 3);
        fault("d31;", 1);
        fault("d1;d31;", 4);
        fault("d31", 1);
        for (int n = 31; n <= 99; n++) {
            fault("d" + n + ";", 1);
        }
    }

    private static void noTokens() {
        says("of a byte that begins none, a NUMBER above 99 or with a 0 ahead of others, that TOKEN's");
        fault("d?;", 1);
        fault("?", 0);
        fault("  ?", 2);
        fault("d1 ?", 3);
        fault("d1; ?", 4);
        fault("d99;", 1);
        fault("d100;", 1);
        fault("d101;", 1);
        fault("d100", 1);
        fault("d1 100", 3);
        fault("d1;100", 3);
        fault("d1000000;", 1);
        // 5 and 10, if a number wrapped round
        fault("d4294967301;", 1);
        fault("d18446744073709551626;", 1);
        fault("d" + "9".repeat(139), 1);
        fault("d" + "1".repeat(139), 1);
        read("d0;", 1);
        read("d10;", 1);
        fault("d00;", 1);
        fault("d01;", 1);
        fault("d010;", 1);
        fault("d001;", 1);
        fault("d00", 1);
        fault("d 01", 2);
        fault("g01;", 1);
        fault("h1 02;", 3);
        fault("d1;01", 3);
        fault("d1 01;", 3);
        fault("0", 0);
        fault("00", 0);
    }

    private static void endsTooEarly() {
        says("the text's length, if it ends too early");
        String whole = "c1 2 3;g4;h5 6;v7 1;d8;";
        int items = 0;
        for (int n = 0; n <= whole.length(); n++) {
            String cut = whole.substring(0, n);
            if (n == 0 || cut.endsWith(";")) {
                items += n == 0 ? 0 : 1;
                read(cut, items);
                read(cut + "  ", items);
            } else {
                fault(cut, n);
                fault(cut + " ", n + 1);
                fault(cut + "   ", n + 3);
            }
        }
        fault(blanks(138) + "c", 139);
        fault(blanks(139) + "c", 140);
        fault(blanks(139) + "x", 139);
        fault(blanks(139) + ";", 139);
        fault("d1" + blanks(138), 140);
        fault("d1" + blanks(137) + "1", 139);
        read("d1" + blanks(137) + ";", 1);
    }

    private static void faultChangesNothing() {
        says("-10 less FAULT: nothing changes.");
        SleetLine x = told("c1 2 3;g4;h5 6;v7 1;d8;");
        due("wold(), FAULT 0", tell(x, ";"), -10);
        due("wold() again", x.wold(), -10);
        due("count(6), the text stays", x.count(6), 1);
        due("type(32), it grows on", x.type(32), 2);
        x.clear();
        due("wold(), FAULT 34", tell(x, "c9 9 9;g1;h0 0;v1 0;d30;c8 8 8;d1 2;"), -10 - 34);
        due("count(0)", x.count(0), 1);
        due("column(0, 0)", x.column(0, 0), 1);
        due("column(0, 1)", x.column(0, 1), 2);
        due("column(0, 2)", x.column(0, 2), 3);
        due("count(3)", x.count(3), 4);
        due("voter(0, 0)", x.voter(0, 0), 7);
        due("count(2)", x.count(2), 1);
        due("now(1)", x.now(1), 8);
        // MILD of field 0 is 7, of field 1 it is 6, of field 2 it is 5
        due("column(0, 6)", x.column(0, 6), 2);
        due("column(0, 7)", x.column(0, 7), 1);
    }

    // ---- 2: what falls

    private static void whatFalls() {
        noDays();
        snowsSleetsRains();
        edges();
        widest();
        fieldsCounted();
    }

    private static void noDays() {
        says("WARM of the DAY (0, if there are none) and EXTRA, less how high it lies");
        SleetLine x = told("c3 0 0;");
        due("now(1)", x.now(1), 0);
        due("field(0, 0, 0)", x.field(0, 0, 0), -3);
        due("days(9)", x.days(9), 0);
        due("now(0)", x.now(0), 9);
        due("field(0, 7, 0)", x.field(0, 7, 0), -10);
        due("first(0, 0)", x.first(0, 0), 0);
        warmedTo(x, 4);
        due("field(0, 0, 0)", x.field(0, 0, 0), 1);
        due("first(0, 0), never", x.first(0, 0), NONE);
        due("first(0, 1)", x.first(0, 1), 0);
        due("now(1) of a new object", new SleetLine().now(1), 0);
    }

    private static void snowsSleetsRains() {
        says("It SNOWS there, if MILD is 0 or less; it RAINS, if MILD is above GAP; else it is SLEET.");
        for (int gap = 1; gap <= 6; gap++) {
            for (int mild = -2; mild <= 10; mild++) {
                SleetLine x = told("c2 0 0;g" + gap + ";d" + (mild + 2) + ";");
                due("field(0, 0, 0)", x.field(0, 0, 0), mild);
                due("field(0, 0, 1), GAP " + gap + ", MILD " + mild, x.field(0, 0, 1),
                    mild <= 0 ? 2 : mild <= gap ? 1 : 0);
            }
        }
        SleetLine x = told("c0 0 0;d9;");
        due("field(0, 0, -1)", x.field(0, 0, -1), NO);
        due("field(0, 0, 3)", x.field(0, 0, 3), 0);
        due("field(0, 0, 4)", x.field(0, 0, 4), NO);
    }

    private static void edges() {
        says("EDGE of a COLUMN: the lowest FIELD where it SNOWS (8: none).");
        SleetLine x = told("c3 0 0;d3;d4;d10;d11;d2;");
        int[] edge = {0, 1, 7, 8, 0};
        for (int day = 0; day < edge.length; day++) {
            due("column(0, 3) on day " + day, x.column(0, 3), edge[day]);
            x.days(1);
        }
        says("WET: the lowest where it does not RAIN (8: none).");
        SleetLine y = told("c3 0 0;g4;d7;d8;d14;d15;d6;");
        int[] wet = {0, 1, 7, 8, 0};
        for (int day = 0; day < wet.length; day++) {
            due("column(0, 4) on day " + day, y.column(0, 4), wet[day]);
            y.days(1);
        }
        for (int low = 0; low <= 9; low += 3) {
            for (int warm = 0; warm <= 30; warm++) {
                SleetLine z = told("c" + low + " 0 0;g6;d" + warm + ";");
                due("column(0, 3), LOW " + low + ", WARM " + warm, z.column(0, 3), clamp(warm - low, 0, 8));
                due("column(0, 4), LOW " + low + ", WARM " + warm, z.column(0, 4), clamp(warm - low - 6, 0, 8));
            }
        }
    }

    private static void widest() {
        says("WIDEST: the greatest EDGE less WET of all COLUMNS.");
        due("now(5) of none", new SleetLine().now(5), 0);
        due("now(5), snow everywhere", told("c0 0 0;c9 0 0;d0;").now(5), 0);
        due("now(5), rain everywhere", told("c0 0 0;c9 0 0;d30;").now(5), 0);
        for (int gap = 1; gap <= 6; gap++) {
            due("now(5), GAP " + gap, told("c0 0 0;d7;g" + gap + ";").now(5), gap);
            due("now(5), the first of two", told("c0 0 0;c9 0 0;d7;g" + gap + ";").now(5), gap);
            due("now(5), the last of two", told("c9 0 0;c0 0 0;d7;g" + gap + ";").now(5), gap);
        }
        // EDGE 1 and 0 alone is left of the strip; EDGE 8 and WET 7 at the other end
        due("now(5), cut off at the sea", told("c0 0 0;d1;g6;").now(5), 1);
        due("now(5), cut off at the hills", told("c0 0 0;d13;g6;").now(5), 1);
        due("now(5), just beyond", told("c0 0 0;d14;g6;").now(5), 0);
        // EDGE 8, WET 7: field 7 alone is in sleet
        due("now(5) of eight columns", told("c9 0 0;".repeat(7) + "c0 0 0;d9;").now(5), 1);
    }

    private static void fieldsCounted() {
        says("3 on how many FIELDS it SNOWS, 4 on how many it RAINS");
        due("now(3) of none", new SleetLine().now(3), 0);
        due("now(4) of none", new SleetLine().now(4), 0);
        SleetLine cold = told("c0 0 0;".repeat(8) + "d0;");
        due("now(3), all", cold.now(3), 64);
        due("now(4)", cold.now(4), 0);
        SleetLine hot = told("c9 0 0;".repeat(8) + "d30;");
        due("now(3)", hot.now(3), 0);
        due("now(4), all", hot.now(4), 64);
        SleetLine between = told("c0 0 0;c1 0 0;g6;d7;");
        due("now(3), MILD 0 .. 7 and -1 .. 6", between.now(3), 1 + 2);
        due("now(4), MILD 0 .. 7 and -1 .. 6", between.now(4), 1);
        says("int now(int what)");
        SleetLine x = told("v9 0;");
        due("now(-1)", x.now(-1), NO);
        due("now(0)", x.now(0), 0);
        due("now(7)", x.now(7), -9);
        due("now(8)", x.now(8), NO);
        due("now(least)", x.now(LEAST), NO);
        due("now(most)", x.now(MOST), NO);
    }

    // ---- walkers

    private static void walkers() {
        claims();
        halves();
        says("0 LOW, 1 HILL, 2 SEA, 3 EDGE, 4 WET, 5 its STAKE (NONE), 6, 7 the CLAIM of WALKER 0, 1,");
        SleetLine x = told("c4 5 6;h0 8;d12;");
        int[] want = {4, 5, 6, 8, 6, NONE, 8, 0, 3, 4};
        for (int what = 0; what <= 9; what++) {
            due("column(0, " + what + ")", x.column(0, what), want[what]);
        }
        due("column(0, -1)", x.column(0, -1), BAD);
        due("column(0, 10)", x.column(0, 10), BAD);
        due("column(0, least)", x.column(0, LEAST), BAD);
        due("column(0, most)", x.column(0, MOST), BAD);
        says("Of a VOTER: 0 WEIGHT, 1 WANTS. BAD.");
        SleetLine y = told("v7 0;");
        due("voter(0, -1)", y.voter(0, -1), BAD);
        due("voter(0, 0)", y.voter(0, 0), 7);
        due("voter(0, 1)", y.voter(0, 1), 0);
        due("voter(0, 2)", y.voter(0, 2), BAD);
    }

    private static void claims() {
        says("A WALKER says SNOW of a FIELD, if MILD is his HAND or less.");
        for (int hand = 0; hand <= 9; hand++) {
            for (int mild = Math.max(0, hand - 1); mild <= hand + 1; mild++) {
                SleetLine x = told("c1 0 0;d" + (mild + 1) + ";h" + hand + " " + hand + ";");
                due("field(0, 0, 2), MILD " + mild, x.field(0, 0, 2), mild <= hand ? 1 : 0);
                due("field(0, 0, 3), MILD " + mild, x.field(0, 0, 3), mild <= hand ? 1 : 0);
            }
        }
        says("His CLAIM of a COLUMN: the lowest FIELD of which he says SNOW (8: none).");
        for (int hand = 0; hand <= 9; hand++) {
            for (int warm = 0; warm <= 30; warm++) {
                SleetLine x = told("c1 0 0;d" + warm + ";h" + hand + " " + (9 - hand) + ";");
                due("column(0, 6), WARM " + warm, x.column(0, 6), clamp(warm - 1 - hand, 0, 8));
                due("column(0, 7), WARM " + warm, x.column(0, 7), clamp(warm - 1 - 9 + hand, 0, 8));
            }
        }
    }

    private static void halves() {
        says("one behind the other, WALKER 0 first, each comes nearer by half of what is between them (the greater half), "
            + "till they are alike.");
        // by what is between them: how far from WALKER 0's CLAIM, behind how many comings nearer
        int[] far = {0, 1, 1, 2, 3, 4, 4, 5, 5};
        int[] comings = {0, 1, 2, 2, 3, 3, 3, 3, 4};
        for (int between = 0; between <= 8; between++) {
            SleetLine down = told("c0 0 0;d8;h0 " + between + ";");
            due("column(0, 8), from 8 down to " + (8 - between), down.column(0, 8), 8 - far[between]);
            due("column(0, 9), from 8 down to " + (8 - between), down.column(0, 9), comings[between]);
            due("stakes(0)", down.stakes(0), 8 - far[between]);
            SleetLine up = told("c0 0 0;d8;h" + between + " 0;");
            due("column(0, 8), from " + (8 - between) + " up to 8", up.column(0, 8), 8 - between + far[between]);
            due("column(0, 9), from " + (8 - between) + " up to 8", up.column(0, 9), comings[between]);
            due("stakes(0)", up.stakes(0), 8 - between + far[between]);
        }
        // HANDS 9 apart, but a CLAIM is 8 at most, 0 at least
        SleetLine most = told("c0 0 0;d9;h0 9;");
        due("column(0, 8)", most.column(0, 8), 3);
        due("column(0, 9)", most.column(0, 9), 4);
        SleetLine none = told("c0 0 0;d30;h0 9;");
        due("column(0, 8), none of both", none.column(0, 8), 8);
        due("column(0, 9), none of both", none.column(0, 9), 0);
        SleetLine least = told("c9 0 0;d0;h0 9;");
        due("column(0, 8), all of both", least.column(0, 8), 0);
        due("column(0, 9), all of both", least.column(0, 9), 0);
    }

    // ---- what is done

    private static void doings() {
        says("At first it is DAY 0 (number 0), EXTRA is 0, there are no STAKES.");
        SleetLine fresh = new SleetLine();
        due("now(0) of a new object", fresh.now(0), 0);
        due("now(2) of a new object", fresh.now(2), 0);
        due("now(6) of a new object", fresh.now(6), 0);
        SleetLine x = told("c0 0 0;".repeat(8) + "d7;d1;");
        due("now(0)", x.now(0), 0);
        due("now(1)", x.now(1), 7);
        due("now(2)", x.now(2), 0);
        due("now(6)", x.now(6), 0);
        for (int c = 0; c <= 7; c++) {
            due("column(" + c + ", 5)", x.column(c, 5), NONE);
        }
        goneBy();
        lastDay();
        warmed();
        staked();
        pulled();
    }

    private static void goneBy() {
        says("n days (1 .. 9) GO BY, to be UNDONE together: WARM then. BAD;");
        for (int n = 1; n <= 9; n++) {
            SleetLine x = told("d0;d1;d2;d3;d4;d5;d6;d7;");
            due("days(" + n + ")", x.days(n), n % 8);
            due("now(0)", x.now(0), n);
            due("count(5)", x.count(5), 1);
            due("undo()", x.undo(), 0);
            due("now(0)", x.now(0), 0);
        }
        SleetLine x = new SleetLine();
        due("days(0)", x.days(0), BAD);
        due("days(-1)", x.days(-1), BAD);
        due("days(10)", x.days(10), BAD);
        due("days(least)", x.days(LEAST), BAD);
        due("days(most)", x.days(MOST), BAD);
        due("now(0)", x.now(0), 0);
    }

    /** 512 calls never come there: what this looks at is free, but should be in the document's spirit. */
    private static void lastDay() {
        says("STATE: it would be beyond 9999.");
        SleetLine x = told("c0 0 0;d1;d2;");
        for (int i = 0; i < 1110; i++) {
            x.days(9);
        }
        due("now(0)", x.now(0), 9990);
        for (int n = 1; n <= 9; n++) {
            due("days(" + n + ")", x.days(n), n % 2 + 1);
            due("now(0)", x.now(0), 9990 + n);
            due("days(" + (10 - n) + "), one beyond", x.days(10 - n), STATE);
            due("now(0)", x.now(0), 9990 + n);
            x.undo();
        }
        x.days(9);
        due("days(1)", x.days(1), STATE);
        due("days(10)", x.days(10), BAD);
        due("first(0, 2)", x.first(0, 2), 0);
    }

    private static void warmed() {
        says("WARMED by n (-3 .. 3, not 0): EXTRA is n more (-9 .. 9, else it can't be).");
        for (int extra = -9; extra <= 9; extra++) {
            for (int n = -4; n <= 4; n++) {
                // heights 9 .. 16, WARM and EXTRA together 4 .. 22: how many are as high or higher
                SleetLine x = warmedTo(told("c9 0 0;d13;"), extra);
                int known = x.count(5);
                int then = extra + n;
                boolean bad = n == 0 || n == -4 || n == 4;
                boolean beyond = then < -9 || then > 9;
                int snowy = 8 - clamp(13 + then - 9, 0, 8);
                String call = "warms(" + n + ") with EXTRA " + extra;
                due(call, x.warms(n), bad ? BAD : beyond ? STATE : snowy);
                due("now(2) behind " + call, x.now(2), bad || beyond ? extra : then);
                due("count(5) behind " + call, x.count(5), bad || beyond ? known : known + 1);
            }
        }
        SleetLine x = new SleetLine();
        due("warms(least)", x.warms(LEAST), BAD);
        due("warms(most)", x.warms(MOST), BAD);
        due("warms(3) without columns", x.warms(3), 0);
    }

    private static void staked() {
        says("a COLUMN has a STAKE at the FIELD (0 .. 8) where HALVES come together now (one that had one, too: in its place)");
        SleetLine x = told("c0 0 0;h0 0;d0;d1;d2;d3;d4;d5;d6;d9;");
        int[] at = {0, 1, 2, 3, 4, 5, 6, 8};
        for (int day = 0; day < at.length; day++) {
            due("stakes(0) on day " + day, x.stakes(0), at[day]);
            due("column(0, 5)", x.column(0, 5), at[day]);
            due("now(6)", x.now(6), 1);
            x.days(1);
        }
        due("column(0, 5), it stays where it is", x.column(0, 5), 8);
        SleetLine all = told("c0 0 0;".repeat(8));
        for (int c = 0; c <= 7; c++) {
            due("stakes(" + c + ")", all.stakes(c), 0);
            due("now(6)", all.now(6), c + 1);
        }
        due("stakes(-1)", all.stakes(-1), BAD);
        due("stakes(8)", all.stakes(8), BAD);
        says("STAKED: the FIELD. BAD; STATE: it stands there already.");
        for (int warm = 0; warm <= 9; warm++) {
            SleetLine y = told("c0 0 0;h0 0;d" + warm + ";");
            due("stakes(0)", y.stakes(0), Math.min(warm, 8));
            due("stakes(0) again", y.stakes(0), STATE);
            due("count(5)", y.count(5), 1);
            y.pulls(0);
            due("stakes(0), it was pulled", y.stakes(0), Math.min(warm, 8));
            y.undo();
            due("stakes(0), it was undone", y.stakes(0), Math.min(warm, 8));
        }
        due("stakes(0) of none", new SleetLine().stakes(0), BAD);
        SleetLine z = told("c0 0 0;c1 0 0;c2 0 0;d5;");
        due("stakes(2)", z.stakes(2), 1);
        due("stakes(3)", z.stakes(3), BAD);
        due("stakes(-1)", z.stakes(-1), BAD);
        due("stakes(least)", z.stakes(LEAST), BAD);
        due("stakes(most)", z.stakes(MOST), BAD);
        due("now(6)", z.now(6), 1);
    }

    private static void pulled() {
        says("PULLED: the FIELD where it was. BAD; STATE: there is none.");
        SleetLine x = told("c0 0 0;c9 0 0;h0 0;d8;");
        due("pulls(0)", x.pulls(0), STATE);
        x.stakes(0);
        due("pulls(1), the other one has it", x.pulls(1), STATE);
        x.stakes(1);
        due("pulls(-1)", x.pulls(-1), BAD);
        due("pulls(2)", x.pulls(2), BAD);
        due("pulls(least)", x.pulls(LEAST), BAD);
        due("pulls(most)", x.pulls(MOST), BAD);
        due("pulls(0), one at 8", x.pulls(0), 8);
        due("pulls(0) again", x.pulls(0), STATE);
        due("pulls(1), one at 0", x.pulls(1), 0);
        due("pulls(1) again", x.pulls(1), STATE);
        due("now(6)", x.now(6), 0);
        due("count(5)", x.count(5), 4);
        due("pulls(0) of none", new SleetLine().pulls(0), BAD);
    }

    // ---- undone

    /** NOW, as far as it is seen without a change. */
    private static String now(SleetLine x) {
        StringBuilder s = new StringBuilder();
        s.append(x.now(0)).append(' ').append(x.now(2));
        for (int c = 0; c < x.count(0); c++) {
            s.append(' ').append(x.column(c, 5));
        }
        return s.toString();
    }

    /** The i-th of a row of doings, none of which is refused. */
    private static void doing(SleetLine x, int i) {
        switch (i % 7) {
            case 0: due("doing " + i, x.stakes(0) >= 0 ? 1 : 0, 1); break;
            case 1: due("doing " + i, x.days(1 + i % 5) >= 0 ? 1 : 0, 1); break;
            case 2: due("doing " + i, x.warms(i % 2 == 0 ? 2 : -2) >= 0 ? 1 : 0, 1); break;
            case 3: due("doing " + i, x.stakes(1) >= 0 ? 1 : 0, 1); break;
            case 4: due("doing " + i, x.pulls(0) >= 0 ? 1 : 0, 1); break;
            case 5: due("doing " + i, x.days(9) >= 0 ? 1 : 0, 1); break;
            default: due("doing " + i, x.pulls(1) >= 0 ? 1 : 0, 1); break;
        }
    }

    private static void undone() {
        says("UNDONE: the latest GONE BY, WARMED, STAKED, PULLED (10 are known, older ones are lost): all is as ahead of it.");
        for (int many = 0; many <= 25; many++) {
            SleetLine x = told("c0 0 0;c1 0 0;d6;d3;d8;");
            List<String> ahead = new ArrayList<>();
            for (int i = 0; i < many; i++) {
                ahead.add(now(x));
                doing(x, i);
                due("count(5) behind " + (i + 1), x.count(5), Math.min(i + 1, 10));
            }
            int known = Math.min(many, 10);
            for (int left = known - 1; left >= 0; left--) {
                due("undo() of " + many, x.undo(), left);
                String want = ahead.get(many - (known - left));
                due("'" + now(x) + "' as '" + want + "'", now(x).equals(want) ? 1 : 0, 1);
            }
            String last = now(x);
            due("undo() of none", x.undo(), STATE);
            due("'" + now(x) + "' as '" + last + "'", now(x).equals(last) ? 1 : 0, 1);
            due("count(5)", x.count(5), 0);
        }
        says("UNDONE: how many more may be. STATE: none.");
        SleetLine x = new SleetLine();
        due("undo() of a new object", x.undo(), STATE);
        for (int i = 0; i < 9; i++) {
            x.days(1);
        }
        due("undo() of 9", x.undo(), 8);
        x.days(1);
        x.days(1);
        due("undo() of 10", x.undo(), 9);
        x.days(1);
        x.days(1);
        due("undo() of 11, 10 are known", x.undo(), 9);
        x.days(1);
        for (int left = 9; left >= 0; left--) {
            due("undo()", x.undo(), left);
        }
        due("undo()", x.undo(), STATE);
        due("now(0), the oldest is lost", x.now(0), 1);
        stakesUndone();
    }

    private static void stakesUndone() {
        says("(one that had one, too: in its place)");
        SleetLine x = told("c0 0 0;h0 0;d0;d8;");
        x.stakes(0);
        x.days(1);
        due("stakes(0) in its place", x.stakes(0), 8);
        due("undo()", x.undo(), 2);
        due("column(0, 5), the one it had", x.column(0, 5), 0);
        x.stakes(0);
        x.pulls(0);
        due("undo()", x.undo(), 3);
        due("column(0, 5)", x.column(0, 5), 8);
        x.undo();
        x.undo();
        due("undo()", x.undo(), 0);
        due("column(0, 5), it had none", x.column(0, 5), NONE);
        due("now(6)", x.now(6), 0);
    }

    // ---- 3: what is asked

    private static void asked() {
        says("FIRST for a FIELD: behind how many days (0 .. 99) it SNOWS there first, EXTRA as it is; NONE.");
        for (int wait = 0; wait <= 7; wait++) {
            SleetLine x = told("c0 0 0;" + "d4;".repeat(wait) + "d3;" + "d4;".repeat(7 - wait));
            due("first(0, 3), the " + wait + "th day is cold", x.first(0, 3), wait);
            due("first(0, 4), all are", x.first(0, 4), 0);
            due("first(0, 2), none is", x.first(0, 2), NONE);
            x.warms(1);
            due("first(0, 3), 1 warmer", x.first(0, 3), NONE);
            due("first(0, 4), 1 warmer", x.first(0, 4), wait);
            x.warms(-2);
            due("first(0, 2), 1 colder", x.first(0, 2), wait);
            due("first(0, 1), 1 colder", x.first(0, 1), NONE);
            due("now(0)", x.now(0), 0);
        }
        says("FIRST; NONE. BAD.");
        SleetLine x = told("c0 0 0;c9 0 0;d9;");
        due("first(-1, 0)", x.first(-1, 0), BAD);
        due("first(1, 0)", x.first(1, 0), 0);
        due("first(2, 0)", x.first(2, 0), BAD);
        due("first(0, 7)", x.first(0, 7), NONE);
        due("first(least, 0)", x.first(LEAST, 0), BAD);
        due("first(most, 0)", x.first(MOST, 0), BAD);
        due("first(0, least)", x.first(0, LEAST), BAD);
        due("first(0, most)", x.first(0, MOST), BAD);
        due("first(0, 0) of none", new SleetLine().first(0, 0), BAD);
    }

    // ---- lines

    private static void lines() {
        neighbours();
        half();
        best();
        noColumns();
        says("FAIR: how many (what = 0), the first (1; NONE). BAD.");
        SleetLine x = told("c0 1 1;");
        due("fair(-1)", x.fair(-1), BAD);
        due("fair(0)", x.fair(0), 1);
        due("fair(1)", x.fair(1), 4);
        due("fair(2)", x.fair(2), BAD);
        due("fair(least)", x.fair(LEAST), BAD);
        due("fair(most)", x.fair(MOST), BAD);
        says("BEST: the LINE (what = 0), what the lesser side HAS (1). BAD.");
        due("best(-1)", x.best(-1), BAD);
        due("best(0)", x.best(0), 4);
        due("best(1)", x.best(1), 4);
        due("best(2)", x.best(2), BAD);
        due("best(least)", x.best(LEAST), BAD);
        due("best(most)", x.best(MOST), BAD);
    }

    private static void neighbours() {
        says("LINES: a number (0 .. 8) for each COLUMN, neighbours at most 1 apart");
        // how many lines end at each number, column by column
        int[] ways = {1, 1, 1, 1, 1, 1, 1, 1, 1};
        for (int columns = 1; columns <= 8; columns++) {
            int all = 0;
            for (int way : ways) {
                all += way;
            }
            // Of what is worth nothing, every side has half.
            due("fair(0) of " + columns, told("c5 0 0;".repeat(columns)).fair(0), all);
            int[] next = new int[9];
            for (int at = 0; at <= 8; at++) {
                next[at] = ways[at] + (at > 0 ? ways[at - 1] : 0) + (at < 8 ? ways[at + 1] : 0);
            }
            ways = next;
        }
        // The coast would have all of column 0, the uplands all of column 1, if they were not neighbours.
        due("best(0)", told("c0 0 9;c0 9 0;").best(0), 43);
        due("best(1)", told("c0 0 9;c0 9 0;").best(1), 36);
        // From 0 on a line can't be above 7 in column 7, from 8 on not below 1.
        due("best(0), as far as it goes", told("c0 9 0;" + "c0 0 0;".repeat(6) + "c0 0 9;").best(0), 1234567);
        due("best(1), as far as it goes", told("c0 9 0;" + "c0 0 0;".repeat(6) + "c0 0 9;").best(1), 63);
    }

    private static void half() {
        says("a LINE is FAIR, if both HAVE half of what all FIELDS are worth to them, or more.");
        due("fair(0), half alone", told("c0 1 1;").fair(0), 1);
        due("fair(1), half alone", told("c0 1 1;").fair(1), 4);
        due("fair(0), 0 .. 4", told("c0 1 0;").fair(0), 5);
        due("fair(1), 0 .. 4", told("c0 1 0;").fair(1), 0);
        due("fair(0), 4 .. 8", told("c0 0 1;").fair(0), 5);
        due("fair(1), 4 .. 8", told("c0 0 1;").fair(1), 4);
        // 8 - a and 8 - b are 8 together, a and b as well: 44, and as neighbours 35 .. 53 are too far apart
        due("fair(0) of two", told("c0 1 1;c0 1 1;").fair(0), 1);
        due("fair(1) of two", told("c0 1 1;c0 1 1;").fair(1), 44);
        // uplands: 9 * (8 - a) is 36 or more; coast: 9 * b is 36 or more; b is a + 1 at most
        due("fair(0), 34, 44, 45", told("c0 9 0;c0 0 9;").fair(0), 3);
        due("fair(1), 34, 44, 45", told("c0 9 0;c0 0 9;").fair(1), 34);
        says("the first (as a number: figures, COLUMN 0 the highest)");
        due("fair(1), 00000000", told("c0 1 0;" + "c0 0 0;".repeat(7)).fair(1), 0);
        due("fair(1), 01234", told("c0 9 0;c0 0 0;c0 0 0;c0 0 0;c0 0 9;").fair(1), 1234);
        due("fair(1), the first that has a 4 ahead", told("c0 0 9;c0 0 0;c0 0 0;c0 0 0;c0 0 0;").fair(1), 43210);
        due("fair(1) of eight", told("c0 0 9;" + "c0 0 0;".repeat(7)).fair(1), 43210000);
    }

    private static void best() {
        says("BEST: the LINE by which the lesser of both HAVES is most, of several the first: it; that lesser one.");
        SleetLine nothing = told("c0 0 0;c0 0 0;c0 0 0;");
        due("best(0), all alike", nothing.best(0), 0);
        due("best(1), all alike", nothing.best(1), 0);
        SleetLine seaOnly = told("c0 0 9;");
        due("best(0), the uplands have 0", seaOnly.best(0), 0);
        due("best(1), the uplands have 0", seaOnly.best(1), 0);
        // 1 and 1 each: 44 gives 8 and 8; so would 35 and 53
        SleetLine two = told("c0 1 1;c0 1 1;");
        due("best(0)", two.best(0), 44);
        due("best(1)", two.best(1), 8);
        // 8 - a of 8 and b of 8: 34 gives 5, 4; 45 gives 4, 5; 44 gives 4, 4
        SleetLine several = told("c0 1 0;c0 0 1;");
        due("best(0), of 34, 44, 45", several.best(0), 34);
        due("best(1)", several.best(1), 4);
        SleetLine most = told("c0 9 9;".repeat(8));
        due("best(1), half of all", most.best(1), 288);
        // eight numbers that are 32 together, the first: 1 2 3 4 4 5 6 7
        due("best(0)", most.best(0), 12344567);
    }

    private static void noColumns() {
        says("(Of no COLUMNS there is one LINE, 0.)");
        SleetLine x = new SleetLine();
        SleetLine y = told("c0 9 9;c0 9 9;");
        y.fair(0);
        y.best(0);
        tell(y, "v1 1;d3;g1;");
        for (SleetLine z : List.of(x, y)) {
            due("fair(0)", z.fair(0), 1);
            due("fair(1)", z.fair(1), 0);
            due("best(0)", z.best(0), 0);
            due("best(1)", z.best(1), 0);
            due("fair(2)", z.fair(2), BAD);
            due("best(2)", z.best(2), BAD);
        }
    }

    // ---- votes

    private static void power(SleetLine x, int v, int upper, int lower) {
        due("power(" + v + ", 0)", x.power(v, 0), upper);
        due("power(" + v + ", 1)", x.power(v, 1), lower);
    }

    private static void votes() {
        says("VOTE: WEIGHT of all who WANT snow, less that of all who WANT rain.");
        due("now(7) of none", new SleetLine().now(7), 0);
        due("now(7), all want snow", told("v9 1;".repeat(6)).now(7), 54);
        due("now(7), all want rain", told("v9 0;".repeat(6)).now(7), -54);
        due("now(7), alike", told("v9 1;v8 0;v1 0;").now(7), 0);
        due("now(7), one more", told("v9 1;v7 0;v1 0;").now(7), 1);
        due("now(7), one less", told("v9 1;v8 0;v2 0;").now(7), -1);
        says("by whom WEIGHT of those that have come becomes more than half of all: a fraction.");
        power(told("v1 0;"), 0, 1, 1);
        // One of two is half, not more: the last one it is.
        SleetLine two = told("v1 0;v1 1;");
        power(two, 0, 1, 2);
        power(two, 1, 1, 2);
        SleetLine heavier = told("v2 0;v1 1;");
        power(heavier, 0, 1, 1);
        power(heavier, 1, 0, 1);
        // 9 of 18 is half; of 17, it is more
        SleetLine half = told("v9 0;v3 1;v3 1;v3 0;");
        power(half, 0, 3, 4);
        power(half, 3, 1, 12);
        SleetLine more = told("v9 0;v3 1;v3 1;v2 0;");
        power(more, 0, 1, 1);
        power(more, 3, 0, 1);
        for (int many = 1; many <= 6; many++) {
            SleetLine alike = told("v9 0;".repeat(many));
            for (int v = 0; v < many; v++) {
                power(alike, v, 1, many);
            }
        }
        SleetLine six = told("v9 0;".repeat(6));
        // 4 and five of 1: he is the one wherever 1 .. 4 came ahead of him
        SleetLine strong = told("v4 1;" + "v1 0;".repeat(5));
        power(strong, 0, 2, 3);
        power(strong, 5, 1, 15);
        SleetLine stairs = told("v1 1;v2 1;v3 1;v4 1;v5 1;v6 1;");
        int[] orders = decided(new int[] {1, 2, 3, 4, 5, 6});
        for (int v = 0; v <= 5; v++) {
            int shared = 720;
            while (orders[v] % shared != 0 || 720 % shared != 0) {
                shared--;
            }
            power(stairs, v, orders[v] / shared, 720 / shared);
        }
        says("POWER: upper (what = 0), lower number (1), in least terms. BAD.");
        due("power(0, -1)", six.power(0, -1), BAD);
        due("power(0, 2)", six.power(0, 2), BAD);
        due("power(-1, 0)", six.power(-1, 0), BAD);
        due("power(6, 0)", six.power(6, 0), BAD);
        due("power(least, 0)", six.power(LEAST, 0), BAD);
        due("power(most, 1)", six.power(MOST, 1), BAD);
        due("power(0, 0) of none", new SleetLine().power(0, 0), BAD);
        due("power(0, 1) of none", new SleetLine().power(0, 1), BAD);
    }

    /** For each of six weights: in how many of the 720 orders he decides, order by order. */
    private static int[] decided(int[] weights) {
        int[] many = new int[6];
        for (int code = 0; code < 46656; code++) {
            int come = 0;
            int sum = 0;
            int who = -1;
            int rest = code;
            for (int i = 0; i < 6; i++) {
                int next = rest % 6;
                rest /= 6;
                come |= 1 << next;
                sum += weights[next];
                if (who < 0 && 2 * sum > 21) {
                    who = next;
                }
            }
            if (come == 63) {
                many[who]++;
            }
        }
        return many;
    }

    // ---- what was said

    private static void heard() {
        heardAtMost();
        warmsBounds();
        askBounds();
    }

    private static void heardAtMost() {
        says("HEARD (6 at most)");
        SleetLine x = told("c3 0 0;");
        for (int i = 1; i <= 6; i++) {
            due("hears, the " + i + "th", x.hears(0, 0, 7, 1), i);
            due("count(4)", x.count(4), i);
        }
        due("hears, the 7th", x.hears(0, 0, 0, 1), FULL);
        due("hears, the 7th", x.hears(1, 0, 7, 0), FULL);
        due("count(4)", x.count(4), 6);
        due("warmth(0), up to 10", x.warmth(0), 11);
        due("forget()", x.forget(), 6);
        due("hears then", x.hears(0, 0, 0, 1), 1);
        says("HEARD: how much there is. BAD; FULL.");
        SleetLine y = told("c0 0 0;c0 0 0;");
        due("hears(-1, 0, 0, 0)", y.hears(-1, 0, 0, 0), BAD);
        due("hears(2, 0, 0, 0)", y.hears(2, 0, 0, 0), BAD);
        due("hears(0, -1, 0, 0)", y.hears(0, -1, 0, 0), BAD);
        due("hears(0, 2, 0, 0)", y.hears(0, 2, 0, 0), BAD);
        due("hears(0, 0, 0, -1)", y.hears(0, 0, 0, -1), BAD);
        due("hears(0, 0, 0, 2)", y.hears(0, 0, 0, 2), BAD);
        due("hears(least, ..)", y.hears(LEAST, 0, 0, 0), BAD);
        due("hears(.., most)", y.hears(0, 0, 0, MOST), BAD);
        due("warmth(0)", y.warmth(0), 40);
        due("hears(0, 0, 0, 0)", y.hears(0, 0, 0, 0), 1);
        due("hears(1, 1, 7, 1)", y.hears(1, 1, 7, 1), 2);
        due("hears of none", new SleetLine().hears(0, 0, 0, 0), BAD);
        says("Nothing was HEARD: how much was.");
        due("forget()", y.forget(), 2);
        due("forget() again", y.forget(), 0);
        due("count(4)", y.count(4), 0);
        due("warmth(0)", y.warmth(0), 40);
        due("warmth(1)", y.warmth(1), 0);
        due("forget() of a new object", new SleetLine().forget(), 0);
    }

    private static void warmsBounds() {
        says("WARMS: numbers 0 .. 39 for WARM and EXTRA together by which all that was HEARD is so: how many; the least; NONE.");
        due("warmth(0) of a new object", new SleetLine().warmth(0), 40);
        due("warmth(1) of a new object", new SleetLine().warmth(1), 0);
        SleetLine x = told("c0 0 0;c9 0 0;h0 9;");
        due("warmth(0), nothing was said", x.warmth(0), 40);
        due("warmth(1), nothing was said", x.warmth(1), 0);
        for (int walker = 0; walker <= 1; walker++) {
            for (int c = 0; c <= 1; c++) {
                for (int f = 0; f <= 7; f++) {
                    int limit = 9 * c + f + 9 * walker;
                    x.forget();
                    x.hears(walker, c, f, 1);
                    due("warmth(0), SNOW up to " + limit, x.warmth(0), limit + 1);
                    due("warmth(1), SNOW up to " + limit, x.warmth(1), 0);
                    x.hears(walker, c, f, 0);
                    due("warmth(0), both can't be", x.warmth(0), 0);
                    due("warmth(1), both can't be", x.warmth(1), NONE);
                    x.forget();
                    x.hears(walker, c, f, 0);
                    due("warmth(0), none up to " + limit, x.warmth(0), 39 - limit);
                    due("warmth(1), none up to " + limit, x.warmth(1), limit + 1);
                }
            }
        }
        SleetLine one = told("c0 0 0;h0 0;");
        one.hears(0, 0, 0, 1);
        due("warmth(0), 0 alone", one.warmth(0), 1);
        due("warmth(1), 0 alone", one.warmth(1), 0);
        one.forget();
        one.hears(0, 0, 3, 0);
        one.hears(0, 0, 4, 1);
        due("warmth(0), 4 alone", one.warmth(0), 1);
        due("warmth(1), 4 alone", one.warmth(1), 4);
        one.hears(0, 0, 3, 1);
        due("warmth(0), none", one.warmth(0), 0);
        due("warmth(1), none", one.warmth(1), NONE);
        one.hears(0, 0, 0, 1);
        one.hears(0, 0, 7, 0);
        due("warmth(0), none by far", one.warmth(0), 0);
        due("warmth(1), none by far", one.warmth(1), NONE);
        says("on an unknown DAY, MILD being unknown");
        SleetLine day = told("c0 0 0;d9;d5;");
        day.hears(0, 0, 7, 1);
        day.days(1);
        day.warms(3);
        due("warmth(0), whatever the day", day.warmth(0), 8);
        day.hears(0, 0, 6, 0);
        day.undo();
        day.undo();
        due("warmth(0), whatever is undone", day.warmth(0), 1);
        due("warmth(1), whatever is undone", day.warmth(1), 7);
        says("WARMS: how many (what = 0), the least (1; NONE). BAD.");
        due("warmth(-1)", day.warmth(-1), BAD);
        due("warmth(2)", day.warmth(2), BAD);
        due("warmth(least)", day.warmth(LEAST), BAD);
        due("warmth(most)", day.warmth(MOST), BAD);
    }

    private static void askBounds() {
        says("of which SNOW or not leaves the greater part of these least, of several the least");
        // Of 0 .. 39, up to 19 parts by halves: WALKER 1, HAND 9, height 10.
        due("ask()", told("c3 0 0;h0 9;").ask(), 107);
        due("ask(), WALKER 0 can as well", told("c3 0 0;h9 9;").ask(), 7);
        due("ask(), of 107 and 116", told("c3 0 0;c4 0 0;h0 9;").ask(), 107);
        due("ask(), column 1 alone can", told("c2 0 0;c4 0 0;h0 9;").ask(), 116);
        due("ask(), of two columns alike", told("c4 0 0;c4 0 0;h0 9;").ask(), 106);
        due("ask(), the highest", told("c0 0 0;c0 0 0;c0 0 0;c0 0 0;c0 0 0;c0 0 0;c0 0 0;c5 0 0;h0 7;").ask(), 177);
        due("ask(), the lowest", told("c9 0 0;h9 9;").ask(), 1);
        SleetLine two = told("c0 0 0;h0 0;");
        two.hears(0, 0, 1, 1);
        due("warmth(0), 0 and 1", two.warmth(0), 2);
        due("ask() of two", two.ask(), 0);
        // 3 .. 5: up to 3 or up to 4, both leave two at most
        SleetLine three = told("c0 0 0;h0 0;");
        three.hears(0, 0, 2, 0);
        three.hears(0, 0, 5, 1);
        due("ask() of three", three.ask(), 3);
        says("NONE (fewer than 2, none parts them)");
        due("ask() without columns", new SleetLine().ask(), NONE);
        three.hears(0, 0, 3, 1);
        due("warmth(0)", three.warmth(0), 1);
        due("ask() of one", three.ask(), NONE);
        three.hears(0, 0, 3, 0);
        due("warmth(0)", three.warmth(0), 0);
        due("ask() of none", three.ask(), NONE);
        SleetLine above = told("c0 0 0;h0 0;");
        above.hears(0, 0, 6, 0);
        due("ask() of 7 .. 39, 7 alone can be parted", above.ask(), 7);
        above.hears(0, 0, 7, 0);
        due("ask() of 8 .. 39, none parts them", above.ask(), NONE);
        SleetLine below = told("c5 0 0;h0 0;");
        below.hears(0, 0, 1, 1);
        due("ask() of 0 .. 6, 6 alone can be parted", below.ask(), 0);
        below.hears(0, 0, 0, 1);
        due("warmth(0), 0 .. 5", below.warmth(0), 6);
        due("ask() of 0 .. 5, none parts them", below.ask(), NONE);
    }

    // ---- turns, odds

    private static void turnsAndOdds() {
        turns();
        says("each of n times EXTRA is 1 more by x of 10, else 1 less (be it beyond 9, too), each for itself, the DAY staying");
        SleetLine up = warmedTo(told("c9 0 0;d0;d30;"), 9);
        // MILD is 0 .. -7
        for (int f = 0; f <= 7; f++) {
            for (int n = 0; n <= 6; n++) {
                odds(up, f, 10, n, n <= f ? 1 : 0, 1);
                odds(up, f, 0, n, 1, 1);
            }
        }
        SleetLine down = warmedTo(told("c9 0 0;d22;d0;"), -9);
        // MILD is 4 .. -3
        for (int f = 0; f <= 7; f++) {
            for (int n = 0; n <= 6; n++) {
                odds(down, f, 0, n, 4 - f - n <= 0 ? 1 : 0, 1);
                odds(down, f, 10, n, 4 - f + n <= 0 ? 1 : 0, 1);
            }
        }
        // MILD 0 with EXTRA 9: warmer and colder by turns comes back to it, which it would not if 9 were the end
        odds(up, 0, 5, 2, 3, 4);
        odds(up, 0, 5, 6, 21, 32);
        odds(up, 0, 1, 2, 99, 100);
        odds(up, 0, 9, 2, 19, 100);
        says("ODDS for a FIELD by x (0 .. 10), n (0 .. 6)");
        SleetLine x = told("c0 0 0;d1;");
        due("odds, x = -1", x.odds(0, 0, -1, 1, 0), BAD);
        odds(x, 0, 0, 1, 1, 1);
        odds(x, 0, 1, 1, 9, 10);
        odds(x, 0, 9, 1, 1, 10);
        odds(x, 0, 10, 1, 0, 1);
        due("odds, x = 11", x.odds(0, 0, 11, 1, 0), BAD);
        due("odds, x = least", x.odds(0, 0, LEAST, 1, 0), BAD);
        due("odds, x = most", x.odds(0, 0, MOST, 1, 0), BAD);
        due("odds, n = -1", x.odds(0, 0, 5, -1, 0), BAD);
        odds(x, 0, 5, 0, 0, 1);
        odds(x, 1, 5, 0, 1, 1);
        odds(x, 0, 9, 5, 107, 12500);
        odds(x, 7, 9, 6, 1, 1);
        due("odds, n = 7", x.odds(0, 0, 5, 7, 0), BAD);
        due("odds, n = least", x.odds(0, 0, 5, LEAST, 0), BAD);
        due("odds, n = most", x.odds(0, 0, 5, MOST, 0), BAD);
        says("ODDS: upper (what = 0), lower number (1), in least terms. BAD.");
        due("odds, what = -1", x.odds(0, 0, 5, 1, -1), BAD);
        due("odds, what = 2", x.odds(0, 0, 5, 1, 2), BAD);
        due("odds, what = most", x.odds(0, 0, 5, 1, MOST), BAD);
        due("odds of column -1", x.odds(-1, 0, 5, 1, 0), BAD);
        due("odds of column 1", x.odds(1, 0, 5, 1, 0), BAD);
        due("odds of none", new SleetLine().odds(0, 0, 5, 1, 0), BAD);
        // MILD 6: six times colder; nothing can be taken out of 1 / 1000000
        odds(told("c0 0 0;d6;"), 0, 9, 6, 1, 1000000);
        odds(told("c0 0 0;d6;"), 0, 8, 6, 1, 15625);
        odds(told("c0 0 0;d7;"), 0, 1, 6, 0, 1);
        // MILD -5: only six times warmer is no snow
        odds(told("c5 0 0;d0;"), 0, 1, 6, 999999, 1000000);
    }

    private static void odds(SleetLine x, int f, int chance, int times, int upper, int lower) {
        String call = "odds(0, " + f + ", " + chance + ", " + times + ", ";
        due(call + "0)", x.odds(0, f, chance, times, 0), upper);
        due(call + "1)", x.odds(0, f, chance, times, 1), lower);
    }

    /** Two by turns, each trying all three. */
    private static int turns(int warm, int extra, int left, boolean many) {
        if (left == 0) {
            return 8 - clamp(warm + extra - 9, 0, 8);
        }
        int best = many ? -1 : 9;
        for (int next = extra - 1; next <= extra + 1; next++) {
            if (next >= -9 && next <= 9) {
                int ends = turns(warm, next, left - 1, !many);
                best = many ? Math.max(best, ends) : Math.min(best, ends);
            }
        }
        return best;
    }

    private static void turns() {
        says("two by turns make EXTRA 1 more, or 1 less, or leave it (-9 .. 9 alone)");
        for (int extra = -9; extra <= 9; extra++) {
            int warm = 13 - extra;
            SleetLine x = warmedTo(told("c9 0 0;d" + warm + ";"), extra);
            for (int n = 0; n <= 6; n++) {
                due("duel(" + n + ") with EXTRA " + extra, x.duel(n), turns(warm, extra, n, true));
            }
            due("now(2)", x.now(2), extra);
        }
        SleetLine least = warmedTo(told("c9 0 0;d22;"), -9);
        due("duel(1), it can't be colder", least.duel(1), 4);
        due("duel(2)", least.duel(2), 3);
        due("duel(3)", least.duel(3), 4);
        says("TURNS of n (0 .. 6)");
        SleetLine x = told("c0 0 0;d4;");
        due("duel(-1)", x.duel(-1), BAD);
        due("duel(0)", x.duel(0), 4);
        due("duel(1)", x.duel(1), 5);
        due("duel(5)", x.duel(5), 5);
        due("duel(6)", x.duel(6), 4);
        due("duel(7)", x.duel(7), BAD);
        due("duel(least)", x.duel(LEAST), BAD);
        due("duel(most)", x.duel(MOST), BAD);
        due("duel(6) of none", new SleetLine().duel(6), 0);
    }

    // ---- 4: kinds, images

    private static void kindsAndImages() {
        says("KINDS of COLUMNS are over one another: 0 COLUMN; 1 MOOR, 2 FEN, 5 WOOD");
        SleetLine x = told("c0 0 9;c9 9 0;d16;");
        due("mark(-1, 0)", x.mark(-1, 0), NO);
        int[][] want = {{0, 9}, {0, 18}, {-9, 9}, {0, 36}, {-9, 10}, {8, 16}};
        int[] traces = {1, 11, 101, 1011, 10101, 100001};
        long trace = 0;
        for (int kind = 0; kind <= 5; kind++) {
            for (int c = 0; c <= 1; c++) {
                due("mark(" + kind + ", " + c + ")", x.mark(kind, c), want[kind][c]);
                trace += traces[kind];
                due("trace()", x.trace(), trace);
            }
        }
        due("mark(6, 0)", x.mark(6, 0), NO);
        due("mark(least, 0)", x.mark(LEAST, 0), NO);
        due("mark(most, 0)", x.mark(MOST, 0), NO);
        due("mark(0, -1)", x.mark(0, -1), NO);
        due("mark(0, 2)", x.mark(0, 2), NO);
        due("mark(5, most)", x.mark(5, MOST), NO);
        due("trace(), nothing came of these", x.trace(), trace);
        due("mark(0, 0) of none", new SleetLine().mark(0, 0), NO);
        due("mark(4, 7), its number", told("c0 0 0;".repeat(8)).mark(4, 7), 7);
        imageNumbers();
        imagesKeepNow();
        imagesAndUndone();
        countBounds();
    }

    private static void imageNumbers() {
        says("An IMAGE is kept: the number of the day. BAD.");
        SleetLine x = told("d1;d2;d3;");
        due("keep(-1)", x.keep(-1), BAD);
        due("keep(0)", x.keep(0), 0);
        x.days(9);
        due("keep(1)", x.keep(1), 9);
        due("keep(2)", x.keep(2), BAD);
        due("keep(least)", x.keep(LEAST), BAD);
        due("keep(most)", x.keep(MOST), BAD);
        says("All of that becomes as an IMAGE has it: the number of the day. BAD; STATE: none was kept.");
        due("back(-1)", x.back(-1), BAD);
        due("back(2)", x.back(2), BAD);
        due("back(least)", x.back(LEAST), BAD);
        due("back(most)", x.back(MOST), BAD);
        due("back(0)", x.back(0), 0);
        due("back(1)", x.back(1), 9);
        SleetLine y = new SleetLine();
        due("back(0)", y.back(0), STATE);
        due("back(1)", y.back(1), STATE);
        y.keep(1);
        due("back(0), the other was kept", y.back(0), STATE);
        due("back(1)", y.back(1), 0);
        SleetLine z = new SleetLine();
        z.keep(0);
        due("back(1), the other was kept", z.back(1), STATE);
        due("back(0)", z.back(0), 0);
    }

    private static void imagesKeepNow() {
        says("IMAGES 0, 1 keep NOW (the day's number, EXTRA, STAKES, what may be UNDONE); nothing else.");
        SleetLine x = told("c0 0 0;c1 0 0;h0 0;d5;d2;");
        x.stakes(0);
        x.warms(2);
        x.days(1);
        x.keep(0);
        String kept = now(x);
        x.pulls(0);
        x.stakes(1);
        x.warms(-3);
        x.days(9);
        x.keep(1);
        String other = now(x);
        x.hears(0, 0, 0, 1);
        x.mark(1, 0);
        type(x, "d9");
        due("back(0)", x.back(0), 1);
        due("'" + now(x) + "' as '" + kept + "'", now(x).equals(kept) ? 1 : 0, 1);
        due("count(5)", x.count(5), 3);
        due("count(4), what was HEARD stays", x.count(4), 1);
        due("warmth(0), what was HEARD stays", x.warmth(0), 1);
        due("count(6), the text stays", x.count(6), 2);
        due("trace(), it stays", x.trace(), 11);
        due("back(1), the other stays", x.back(1), 10);
        due("'" + now(x) + "' as '" + other + "'", now(x).equals(other) ? 1 : 0, 1);
        due("count(5)", x.count(5), 7);
        x.undo();
        x.undo();
        x.undo();
        x.undo();
        due("'" + now(x) + "' as '" + kept + "'", now(x).equals(kept) ? 1 : 0, 1);
        x.days(5);
        x.stakes(1);
        due("back(1), as it was kept", x.back(1), 10);
        due("'" + now(x) + "' as '" + other + "'", now(x).equals(other) ? 1 : 0, 1);
        due("keep(0), in its place", x.keep(0), 10);
        x.days(1);
        due("back(0)", x.back(0), 10);
        due("wold(), the text is as it was typed", x.wold(), -12);
    }

    private static void imagesAndUndone() {
        says("what may be UNDONE); nothing else");
        SleetLine x = told("c0 0 0;h0 0;d5;d2;");
        x.keep(0);
        for (int i = 0; i < 12; i++) {
            x.days(1 + i % 2);
        }
        x.keep(1);
        due("back(0), nothing is to be undone", x.back(0), 0);
        due("count(5)", x.count(5), 0);
        due("undo()", x.undo(), STATE);
        x.warms(1);
        x.stakes(0);
        due("back(1), ten are to be undone", x.back(1), 18);
        due("now(2)", x.now(2), 0);
        due("count(5)", x.count(5), 10);
        for (int left = 9; left >= 0; left--) {
            due("undo()", x.undo(), left);
        }
        due("undo()", x.undo(), STATE);
        due("now(0)", x.now(0), 3);
        due("column(0, 5)", x.column(0, 5), NONE);
        // What is done and undone behind it leaves the image as it is.
        due("back(1)", x.back(1), 18);
        x.warms(-1);
        due("back(1)", x.back(1), 18);
        due("now(2)", x.now(2), 0);
        due("undo()", x.undo(), 9);
        due("now(0)", x.now(0), 16);
        due("back(0)", x.back(0), 0);
        due("count(5)", x.count(5), 0);
        SleetLine y = told("c0 0 0;c0 0 0;c0 0 0;d5;");
        y.stakes(2);
        y.keep(1);
        y.undo();
        y.stakes(1);
        y.back(1);
        due("now(6), column 2 alone", y.now(6), 1);
        due("undo(), of column 2 again", y.undo(), 0);
        due("now(6)", y.now(6), 0);
    }

    private static void countBounds() {
        says("0 COLUMNS, 1 VOTERS, 2 DAYS, 3 GAP, 4 HEARD, 5 how many may be UNDONE, 6 bytes of THE TEXT. BAD.");
        SleetLine x = told("c0 0 0;".repeat(8) + "v1 1;".repeat(6) + "d0;".repeat(8) + "g6;");
        for (int i = 0; i < 7; i++) {
            x.hears(0, 0, 0, 1);
        }
        for (int i = 0; i < 11; i++) {
            x.days(1);
        }
        type(x, blanks(141));
        int[] want = {8, 6, 8, 6, 6, 10, 140};
        for (int what = 0; what <= 6; what++) {
            due("count(" + what + "), all is full", x.count(what), want[what]);
        }
        due("count(-1)", x.count(-1), BAD);
        due("count(7)", x.count(7), BAD);
        due("count(least)", x.count(LEAST), BAD);
        due("count(most)", x.count(MOST), BAD);
        int[] least = {0, 0, 0, 2, 0, 0, 0};
        for (int what = 0; what <= 6; what++) {
            due("count(" + what + ") of a new object", new SleetLine().count(what), least[what]);
        }
    }

    // ---- read anew

    private static SleetLine usedUp() {
        String great = "c0 9 0;".repeat(8) + "v9 1;".repeat(6) + "d30;".repeat(8) + "g6;h9 9;";
        SleetLine x = told(great);
        tell(x, great);
        for (int c = 0; c <= 7; c++) {
            x.stakes(c);
        }
        x.days(9);
        x.warms(3);
        x.keep(0);
        x.keep(1);
        for (int i = 0; i < 6; i++) {
            x.hears(0, 0, 0, 0);
        }
        x.fair(0);
        x.best(0);
        return x;
    }

    private static void readAnew() {
        says("(Read anew: as told, nothing HEARD or to be UNDONE, IMAGES are gone.)");
        for (String text : List.of("", "c0 9 0;".repeat(8) + "v9 1;".repeat(6) + "d30;".repeat(8) + "g6;h9 9;",
                "c2 1 1;d9;v3 0;")) {
            SleetLine x = usedUp();
            due("wold()", tell(x, text) >= 0 ? 1 : 0, 1);
            due("now(0)", x.now(0), 0);
            due("now(2)", x.now(2), 0);
            due("now(6)", x.now(6), 0);
            due("count(4)", x.count(4), 0);
            due("warmth(0)", x.warmth(0), 40);
            due("warmth(1)", x.warmth(1), 0);
            due("count(5)", x.count(5), 0);
            due("undo()", x.undo(), STATE);
            due("back(0)", x.back(0), STATE);
            due("back(1)", x.back(1), STATE);
            for (int c = 0; c < x.count(0); c++) {
                due("column(" + c + ", 5)", x.column(c, 5), NONE);
            }
        }
        SleetLine x = usedUp();
        tell(x, "c2 1 1;d9;v3 0;");
        due("count(0)", x.count(0), 1);
        due("count(1)", x.count(1), 1);
        due("count(2)", x.count(2), 1);
        due("count(3)", x.count(3), 2);
        due("column(1, 0)", x.column(1, 0), BAD);
        due("voter(1, 0)", x.voter(1, 0), BAD);
        due("column(0, 6), HAND 0", x.column(0, 6), 7);
        due("column(0, 7), HAND 3", x.column(0, 7), 4);
        due("now(7)", x.now(7), -3);
        due("fair(0)", x.fair(0), 1);
        due("fair(1)", x.fair(1), 4);
        due("best(0)", x.best(0), 4);
        due("best(1)", x.best(1), 4);
        due("power(0, 0)", x.power(0, 0), 1);
        due("days(1), DAY 0 again", x.days(1), 9);
        due("hears, the first", x.hears(0, 0, 0, 1), 1);
        due("keep(0)", x.keep(0), 1);
        due("back(1), it is gone still", x.back(1), STATE);
        says("As told; no COLUMNS, VOTERS, DAYS.");
        SleetLine y = new SleetLine();
        due("count(0)", y.count(0), 0);
        due("count(1)", y.count(1), 0);
        due("count(2)", y.count(2), 0);
        due("column(0, 0)", y.column(0, 0), BAD);
        due("field(0, 0, 0)", y.field(0, 0, 0), NO);
        due("voter(0, 0)", y.voter(0, 0), BAD);
        due("stakes(0)", y.stakes(0), BAD);
        due("pulls(0)", y.pulls(0), BAD);
        due("trace()", y.trace(), 0);
        says("THE TRACE.");
        SleetLine z = told("c0 0 0;");
        for (int i = 1; i <= 480; i++) {
            z.mark(5, 0);
        }
        due("trace() behind 480 marks", z.trace(), 480L * 100001);
    }

    // ---- which one is answered, and how long

    private static void order() {
        says("Refused, and nothing changes, the first of these: BAD (a number is not as told, or there is no such thing), "
            + "STATE (as told), FULL.");
        SleetLine x = told("c0 0 0;");
        for (int i = 0; i < 6; i++) {
            x.hears(0, 0, 0, 1);
        }
        due("hears(2, 0, 0, 1), full", x.hears(2, 0, 0, 1), BAD);
        due("hears(0, 1, 0, 1), full", x.hears(0, 1, 0, 1), BAD);
        due("hears(0, 0, 8, 1), full", x.hears(0, 0, 8, 1), BAD);
        due("hears(0, 0, 0, 2), full", x.hears(0, 0, 0, 2), BAD);
        due("hears(0, 0, 0, 1), full", x.hears(0, 0, 0, 1), FULL);
        type(x, blanks(140));
        due("type(256), full", x.type(256), BAD);
        due("type(-1), full", x.type(-1), BAD);
        due("type(255), full", x.type(255), FULL);
        due("back(2), none was kept", x.back(2), BAD);
        due("back(-1), none was kept", x.back(-1), BAD);
        due("back(1), none was kept", x.back(1), STATE);
        due("pulls(1), there is none", x.pulls(1), BAD);
        due("pulls(0), there is none", x.pulls(0), STATE);
        warmedTo(x, 9);
        due("warms(4), EXTRA 9", x.warms(4), BAD);
        due("warms(0), EXTRA 9", x.warms(0), BAD);
        due("warms(3), EXTRA 9", x.warms(3), STATE);
        says("NO = -1000000`: What none is, where a number may be below 0.");
        due("SleetLine.NO", SleetLine.NO, NO);
        due("SleetLine.BAD", SleetLine.BAD, BAD);
        due("SleetLine.STATE", SleetLine.STATE, STATE);
        due("SleetLine.FULL", SleetLine.FULL, FULL);
        due("SleetLine.NONE", SleetLine.NONE, NONE);
        // -1, -2, -3 and -9 are numbers like others there
        SleetLine y = told("c9 0 0;d8;d7;d6;d0;");
        due("field(0, 0, 0)", y.field(0, 0, 0), BAD);
        y.days(1);
        due("field(0, 0, 0)", y.field(0, 0, 0), STATE);
        y.days(1);
        due("field(0, 0, 0)", y.field(0, 0, 0), FULL);
        y.days(1);
        due("field(0, 0, 0)", y.field(0, 0, 0), NONE);
        due("field(1, 0, 0)", y.field(1, 0, 0), NO);
        due("mark(2, 0)", told("c0 0 1;").mark(2, 0), -1);
        says("An object is used for at most 512 calls after it has been made");
        SleetLine z = new SleetLine();
        for (int i = 1; i <= 511; i++) {
            due("days(9), call " + i, z.days(9), 0);
        }
        due("now(0), call 512", z.now(0), 511 * 9);
    }
}
