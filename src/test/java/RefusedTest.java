import java.util.ArrayList;
import java.util.List;

/**
 * "Refused, and nothing changes": of two objects with the same calls behind them one hears a call that is
 * refused, or one that only asks; then both are asked for all that later calls can show, what may be undone,
 * the images, the text and what was said among it, and must answer alike.
 */
public final class RefusedTest {
    private static final int BAD = -1, STATE = -2, FULL = -3, NO = -1000000;
    private static final int LEAST = Integer.MIN_VALUE, MOST = Integer.MAX_VALUE;
    private static final int CALLS = 512;
    private static int wrong = 0;
    private static int tried = 0;

    /** A call by its name and arguments. */
    private record Call(String name, int... of) {
        private String told() {
            StringBuilder s = new StringBuilder(name).append('(');
            for (int i = 0; i < of.length; i++) {
                s.append(i > 0 ? ", " : "").append(of[i]);
            }
            return s.append(')').toString();
        }
    }

    /** A state by the calls that lead to it, and what there is in it. */
    private record Scene(String name, int columns, int voters, List<Call> calls) {
    }

    /** An object, the calls on it counted: what it answers behind the 512th is free. */
    private static final class Used {
        private final SleetLine line = new SleetLine();
        private int calls = 0;

        private long ask(String name, int... of) {
            calls++;
            if (calls > CALLS) {
                throw new IllegalStateException("more calls than an object is used for");
            }
            return answer(line, name, of);
        }
    }

    public static void main(String[] args) {
        List<Scene> scenes = List.of(fresh(), plain(), busy(), full(), atFault(), emptied(), allUndone());
        for (Scene scene : scenes) {
            for (Call call : badInAny(scene)) {
                refused(scene, call, "field now mark".contains(call.name) ? NO : BAD);
            }
            for (Call call : askingOnly(scene)) {
                unchanged(scene, call);
            }
        }
        refusedByState();
        System.out.println(wrong == 0 ? tried + " calls change nothing" : wrong + " things are not as due");
        if (wrong != 0) {
            System.exit(1);
        }
    }

    // ---- states

    private static Call call(String name, int... of) {
        return new Call(name, of);
    }

    private static void type(List<Call> calls, String text) {
        for (int i = 0; i < text.length(); i++) {
            calls.add(call("type", text.charAt(i)));
        }
    }

    private static List<Call> told(String text) {
        List<Call> calls = new ArrayList<>();
        type(calls, text);
        calls.add(call("wold"));
        return calls;
    }

    private static Scene fresh() {
        return new Scene("a new object", 0, 0, new ArrayList<>());
    }

    private static Scene plain() {
        return new Scene("a text was read", 3, 2, told("c2 3 1;c4 2 2;c0 1 5;g3;h1 5;v3 1;v2 0;d8;d5;d12;"));
    }

    /** Some of everything, one image, a text begun. */
    private static Scene busy() {
        List<Call> calls = told("c2 3 1;c4 2 2;c0 1 5;g3;h1 5;v3 1;v2 0;d8;d5;d12;");
        calls.add(call("stakes", 0));
        calls.add(call("days", 4));
        calls.add(call("stakes", 0));
        calls.add(call("warms", -2));
        calls.add(call("keep", 0));
        calls.add(call("pulls", 0));
        calls.add(call("stakes", 2));
        calls.add(call("warms", 3));
        calls.add(call("hears", 0, 0, 7, 1));
        calls.add(call("hears", 1, 2, 0, 0));
        calls.add(call("mark", 3, 1));
        type(calls, "c1 2 3;d7");
        return new Scene("much is there", 3, 2, calls);
    }

    /** As much of everything as there may be. */
    private static Scene full() {
        List<Call> calls = told("c0 1 9;c1 2 8;c2 3 7;c3 4 6;c4 5 5;c5 6 4;c6 7 3;c7 8 2;v1 0;v2 1;v3 0;v4 1;v5 0;v6 1;"
            + "d9;d8;d7;d6;d5;d4;d3;d2;g4;h2 9;");
        calls.add(call("keep", 1));
        for (int c = 0; c < 8; c++) {
            calls.add(call("stakes", c));
        }
        calls.add(call("days", 9));
        calls.add(call("warms", 3));
        calls.add(call("keep", 0));
        calls.add(call("warms", 3));
        calls.add(call("warms", 3));
        // SNOW up to 16, but not up to 4: every one more that is heard could be seen
        for (int i = 0; i < 3; i++) {
            calls.add(call("hears", 0, 7, 7, 1));
            calls.add(call("hears", 0, 0, 2, 0));
        }
        calls.add(call("mark", 5, 7));
        type(calls, "c9 9 9;d30;" + " ".repeat(129));
        return new Scene("all is full", 8, 6, calls);
    }

    /** A text that can't be read. */
    private static Scene atFault() {
        Scene scene = busy();
        type(scene.calls, ";g1;g2;");
        return new Scene("a text is at fault", 3, 2, scene.calls);
    }

    /** Read anew with less than there was. */
    private static Scene emptied() {
        List<Call> calls = new ArrayList<>(busy().calls);
        type(calls, ";");
        calls.add(call("keep", 1));
        calls.add(call("wold"));
        calls.add(call("warms", -1));
        return new Scene("less is told than there was", 1, 0, calls);
    }

    /** Twelve were done, the ten that were known are undone: what the oldest did stays. */
    private static Scene allUndone() {
        List<Call> calls = told("c2 3 1;c4 2 2;c0 1 5;g3;h1 5;v3 1;v2 0;d8;d5;d12;");
        calls.add(call("warms", 2));
        calls.add(call("stakes", 1));
        for (int i = 0; i < 10; i++) {
            calls.add(call("days", 1));
        }
        calls.add(call("keep", 0));
        for (int i = 0; i < 10; i++) {
            calls.add(call("undo"));
        }
        return new Scene("all that was known is undone", 3, 2, calls);
    }

    private static Used made(Scene scene) {
        Used x = new Used();
        for (Call call : scene.calls) {
            long answer = x.ask(call.name, call.of);
            if (answer < 0) {
                wrong++;
                System.out.println(scene.name + ": " + call.told() + " was refused: " + answer);
            }
        }
        return x;
    }

    // ---- what is refused

    private static void refused(Scene scene, Call call, long due) {
        long got = made(scene).ask(call.name, call.of);
        if (got != due) {
            wrong++;
            System.out.println(scene.name + ": " + call.told() + " answered " + got + ", due is " + due);
        }
        unchanged(scene, call);
    }

    private static void unchanged(Scene scene, Call call) {
        tried++;
        for (int probe = 0; probe < PROBES; probe++) {
            Used without = made(scene);
            Used with = made(scene);
            with.ask(call.name, call.of);
            String want = shown(without, probe);
            String got = shown(with, probe);
            if (!got.equals(want)) {
                wrong++;
                System.out.println(scene.name + ": " + call.told() + " changed what is shown (" + probe + "): " + want
                    + " became " + got);
            }
        }
    }

    /** A number in the wrong, at each place of a call whose other numbers are fine. */
    private static void wrongAt(List<Call> calls, String name, int[] fine, int[][] bad) {
        for (int place = 0; place < fine.length; place++) {
            for (int number : bad[place]) {
                int[] of = fine.clone();
                of[place] = number;
                calls.add(call(name, of));
            }
        }
    }

    private static int[] outside(int least, int most) {
        return new int[] {least - 1, most + 1, LEAST, MOST};
    }

    private static List<Call> badInAny(Scene scene) {
        int[] c = outside(0, scene.columns - 1);
        int[] v = outside(0, scene.voters - 1);
        int[] f = outside(0, 7);
        int[] two = outside(0, 1);
        List<Call> calls = new ArrayList<>();
        wrongAt(calls, "type", new int[] {32}, new int[][] {outside(0, 255)});
        wrongAt(calls, "column", new int[] {0, 0}, new int[][] {c, outside(0, 9)});
        wrongAt(calls, "field", new int[] {0, 0, 0}, new int[][] {c, f, outside(0, 3)});
        wrongAt(calls, "voter", new int[] {0, 0}, new int[][] {v, two});
        wrongAt(calls, "days", new int[] {1}, new int[][] {outside(1, 9)});
        wrongAt(calls, "warms", new int[] {1}, new int[][] {{0, -4, 4, LEAST, MOST}});
        wrongAt(calls, "stakes", new int[] {0}, new int[][] {c});
        wrongAt(calls, "pulls", new int[] {0}, new int[][] {c});
        wrongAt(calls, "now", new int[] {0}, new int[][] {outside(0, 7)});
        wrongAt(calls, "first", new int[] {0, 0}, new int[][] {c, f});
        wrongAt(calls, "fair", new int[] {0}, new int[][] {two});
        wrongAt(calls, "best", new int[] {0}, new int[][] {two});
        wrongAt(calls, "power", new int[] {0, 0}, new int[][] {v, two});
        wrongAt(calls, "duel", new int[] {0}, new int[][] {outside(0, 6)});
        wrongAt(calls, "odds", new int[] {0, 0, 5, 3, 0}, new int[][] {c, f, outside(0, 10), outside(0, 6), two});
        wrongAt(calls, "hears", new int[] {0, 0, 0, 0}, new int[][] {two, c, f, two});
        wrongAt(calls, "warmth", new int[] {0}, new int[][] {two});
        wrongAt(calls, "mark", new int[] {3, 0}, new int[][] {outside(0, 5), c});
        wrongAt(calls, "keep", new int[] {0}, new int[][] {two});
        wrongAt(calls, "back", new int[] {0}, new int[][] {two});
        wrongAt(calls, "count", new int[] {0}, new int[][] {outside(0, 6)});
        return calls;
    }

    /** "(Nothing is changed.)", and what tells of columns, fields, voters and counts. */
    private static List<Call> askingOnly(Scene scene) {
        List<Call> calls = new ArrayList<>(List.of(call("fair", 0), call("fair", 1), call("best", 0), call("best", 1),
            call("duel", 0), call("duel", 1), call("duel", 5), call("duel", 6), call("warmth", 0), call("warmth", 1), call("ask"), call("trace"),
            call("now", 0), call("now", 3), call("now", 5), call("now", 6), call("now", 7), call("count", 0),
            call("count", 5), call("count", 6)));
        if (scene.columns > 0) {
            int last = scene.columns - 1;
            calls.addAll(List.of(call("first", 0, 0), call("first", last, 7), call("odds", 0, 0, 5, 6, 0),
                call("odds", last, 7, 10, 0, 1), call("column", 0, 3), call("column", last, 8), call("column", last, 9),
                call("field", 0, 0, 0), call("field", last, 7, 3)));
        }
        if (scene.voters > 0) {
            calls.addAll(List.of(call("power", 0, 0), call("power", scene.voters - 1, 1), call("voter", 0, 0)));
        }
        return calls;
    }

    private static void refusedByState() {
        for (Scene scene : List.of(fresh(), plain())) {
            refused(scene, call("undo"), STATE);
            refused(scene, call("back", 0), STATE);
            refused(scene, call("back", 1), STATE);
        }
        refused(allUndone(), call("undo"), STATE);
        refused(allUndone(), call("back", 1), STATE);
        refused(plain(), call("pulls", 0), STATE);
        refused(plain(), call("pulls", 2), STATE);
        refused(busy(), call("back", 1), STATE);
        refused(busy(), call("pulls", 0), STATE);
        refused(busy(), call("pulls", 1), STATE);
        refused(emptied(), call("back", 0), STATE);
        refused(emptied(), call("back", 1), STATE);
        refused(emptied(), call("pulls", 0), STATE);
        refused(full(), call("type", 32), FULL);
        refused(full(), call("type", 0), FULL);
        refused(full(), call("type", 255), FULL);
        refused(full(), call("hears", 0, 0, 5, 0), FULL);
        refused(full(), call("hears", 0, 0, 5, 1), FULL);
        refused(full(), call("hears", 1, 1, 1, 0), FULL);
        refused(full(), call("hears", 1, 1, 1, 1), FULL);
        for (int n = 1; n <= 3; n++) {
            refused(full(), call("warms", n), STATE);
            refused(atExtra(9 - n + 1), call("warms", n), STATE);
            refused(atExtra(-9), call("warms", -n), STATE);
            refused(atExtra(-9 + n - 1), call("warms", -n), STATE);
        }
        refused(staked(), call("stakes", 0), STATE);
        refused(staked(), call("stakes", 7), STATE);
        // ";g1;g2;" stands behind the 9 bytes of a text that was fine up to there: g again at 13
        refused(atFault(), call("wold"), -10 - 13);
        refused(busy(), call("wold"), -10 - 9);
    }

    private static Scene atExtra(int extra) {
        List<Call> calls = told("c2 3 1;c4 2 2;c0 1 5;d8;d5;d12;");
        for (int left = extra; left != 0; left -= Math.max(-3, Math.min(3, left))) {
            calls.add(call("warms", Math.max(-3, Math.min(3, left))));
        }
        return new Scene("EXTRA is " + extra, 3, 0, calls);
    }

    /** Stakes everywhere, at 0 and at 8 too, ten steps known. */
    private static Scene staked() {
        List<Call> calls = told("c0 1 9;c1 2 8;c2 3 7;c3 4 6;c4 5 5;c5 6 4;c6 7 3;c9 8 2;d9;h0 0;");
        calls.add(call("warms", 1));
        calls.add(call("warms", -1));
        calls.add(call("days", 2));
        for (int c = 0; c < 8; c++) {
            calls.add(call("stakes", c));
        }
        return new Scene("stakes stand everywhere", 8, 0, calls);
    }

    // ---- what later calls show

    private static final int PROBES = 8;

    private static String shown(Used x, int probe) {
        StringBuilder s = new StringBuilder();
        switch (probe) {
            case 0: showTold(x, s); break;
            case 1: showAsked(x, s); break;
            case 2: showUndone(x, s); break;
            case 3: show(x, s, "back", 0); showUndone(x, s); break;
            case 4: show(x, s, "back", 1); showUndone(x, s); break;
            case 5: showText(x, s, ""); break;
            case 6: showText(x, s, ";v1 1;"); break;
            default: showHeard(x, s); break;
        }
        return s.toString();
    }

    private static void show(Used x, StringBuilder s, String name, int... of) {
        s.append(x.ask(name, of)).append(' ');
    }

    private static void showTold(Used x, StringBuilder s) {
        for (int what = 0; what <= 7; what++) {
            show(x, s, "now", what);
            show(x, s, "count", what);
        }
        for (int c = 0; c < 8; c++) {
            for (int what = 0; what <= 9; what++) {
                show(x, s, "column", c, what);
            }
            show(x, s, "field", c, 0, 0);
            show(x, s, "field", c, 7, 1);
            show(x, s, "voter", c, 0);
            show(x, s, "voter", c, 1);
        }
        show(x, s, "trace");
    }

    private static void showAsked(Used x, StringBuilder s) {
        for (int what = 0; what <= 1; what++) {
            show(x, s, "fair", what);
            show(x, s, "best", what);
            show(x, s, "warmth", what);
            for (int v = 0; v < 6; v++) {
                show(x, s, "power", v, what);
            }
            for (int c = 0; c < 8; c++) {
                show(x, s, "odds", c, 4, 3, 5, what);
            }
        }
        for (int c = 0; c < 8; c++) {
            for (int f = 0; f < 8; f++) {
                show(x, s, "first", c, f);
            }
        }
        for (int n = 0; n <= 6; n++) {
            show(x, s, "duel", n);
        }
        show(x, s, "ask");
    }

    private static void showNow(Used x, StringBuilder s) {
        show(x, s, "now", 0);
        show(x, s, "now", 2);
        for (int c = 0; c < 8; c++) {
            show(x, s, "column", c, 5);
        }
    }

    private static void showUndone(Used x, StringBuilder s) {
        showNow(x, s);
        // Ten are known; the eleventh is refused.
        for (int i = 0; i < 11; i++) {
            show(x, s, "undo");
            showNow(x, s);
        }
    }

    private static void showText(Used x, StringBuilder s, String more) {
        for (int i = 0; i < more.length(); i++) {
            show(x, s, "type", more.charAt(i));
        }
        show(x, s, "wold");
        showTold(x, s);
        show(x, s, "back", 0);
        show(x, s, "clear");
    }

    private static void showHeard(Used x, StringBuilder s) {
        show(x, s, "mark", 4, 0);
        show(x, s, "trace");
        for (int i = 0; i < 7; i++) {
            show(x, s, "warmth", 0);
            show(x, s, "warmth", 1);
            show(x, s, "ask");
            show(x, s, "hears", i % 2, 0, i, i % 3 == 0 ? 1 : 0);
        }
        show(x, s, "forget");
        show(x, s, "warmth", 0);
        show(x, s, "ask");
    }

    private static long answer(SleetLine x, String name, int[] a) {
        switch (name) {
            case "type": return x.type(a[0]);
            case "clear": return x.clear();
            case "wold": return x.wold();
            case "column": return x.column(a[0], a[1]);
            case "field": return x.field(a[0], a[1], a[2]);
            case "voter": return x.voter(a[0], a[1]);
            case "days": return x.days(a[0]);
            case "warms": return x.warms(a[0]);
            case "stakes": return x.stakes(a[0]);
            case "pulls": return x.pulls(a[0]);
            case "undo": return x.undo();
            case "now": return x.now(a[0]);
            case "first": return x.first(a[0], a[1]);
            case "fair": return x.fair(a[0]);
            case "best": return x.best(a[0]);
            case "power": return x.power(a[0], a[1]);
            case "duel": return x.duel(a[0]);
            case "odds": return x.odds(a[0], a[1], a[2], a[3], a[4]);
            case "hears": return x.hears(a[0], a[1], a[2], a[3]);
            case "forget": return x.forget();
            case "warmth": return x.warmth(a[0]);
            case "ask": return x.ask();
            case "mark": return x.mark(a[0], a[1]);
            case "keep": return x.keep(a[0]);
            case "back": return x.back(a[0]);
            case "count": return x.count(a[0]);
            case "trace": return x.trace();
            default: throw new IllegalArgumentException(name);
        }
    }
}
