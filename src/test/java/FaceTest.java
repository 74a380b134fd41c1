import java.io.IOException;
import java.lang.reflect.Constructor;
import java.lang.reflect.Field;
import java.lang.reflect.Method;
import java.lang.reflect.Modifier;
import java.nio.charset.StandardCharsets;
import java.nio.file.Files;
import java.nio.file.Path;
import java.util.Arrays;
import java.util.HashMap;
import java.util.Map;
import java.util.Set;
import java.util.TreeSet;
import java.util.regex.Matcher;
import java.util.regex.Pattern;

/** The class's face is the document's, and its file keeps to what of LANGUAGE.md a program can see. */
public final class FaceTest {
    private static final String SOURCE = "src/main/java/SleetLine.java";
    private static final String[] METHODS = {"int type(int)", "int clear()", "int wold()", "int column(int,int)",
        "int field(int,int,int)", "int voter(int,int)", "int days(int)", "int warms(int)", "int stakes(int)",
        "int pulls(int)", "int undo()", "int now(int)", "int first(int,int)", "int fair(int)", "int best(int)",
        "int power(int,int)", "int duel(int)", "int odds(int,int,int,int,int)", "int hears(int,int,int,int)",
        "int forget()", "int warmth(int)", "int ask()", "int mark(int,int)", "int keep(int)", "int back(int)",
        "int count(int)", "long trace()"};
    private static int wrong = 0;

    private static void check(boolean holds, String otherwise) {
        if (!holds) {
            wrong++;
            System.out.println(otherwise);
        }
    }

    public static void main(String[] args) throws IOException {
        face();
        nested();
        shape(SleetLine.class);
        source(Files.readString(Path.of(SOURCE), StandardCharsets.ISO_8859_1));
        System.out.println(wrong == 0 ? "the face and the file are as told" : wrong + " things are not as told");
        if (wrong != 0) {
            System.exit(1);
        }
    }

    private static void face() {
        Set<String> found = new TreeSet<>();
        Set<String> hidden = new TreeSet<>();
        for (Method m : SleetLine.class.getDeclaredMethods()) {
            if (Modifier.isPublic(m.getModifiers())) {
                found.add(told(m));
                check(!Modifier.isStatic(m.getModifiers()), m + " is static");
            } else {
                hidden.add(m.getName());
                check(Modifier.isPrivate(m.getModifiers()), m + " is not private");
            }
        }
        check(found.equals(new TreeSet<>(Arrays.asList(METHODS))), "the public methods are " + found);
        for (String method : METHODS) {
            String name = method.substring(method.indexOf(' ') + 1, method.indexOf('('));
            check(!hidden.contains(name), "a private method is called " + name);
        }
        Set<String> constants = new TreeSet<>();
        for (Field f : SleetLine.class.getDeclaredFields()) {
            if (Modifier.isPublic(f.getModifiers())) {
                constants.add(f.getName());
                check(f.getType() == int.class, f + " is no int");
            } else {
                check(Modifier.isPrivate(f.getModifiers()), f + " is not private");
            }
        }
        check(constants.equals(Set.of("BAD", "STATE", "FULL", "NONE", "NO")), "the constants are " + constants);
        Constructor<?>[] made = SleetLine.class.getDeclaredConstructors();
        check(made.length == 1 && made[0].getParameterCount() == 0 && Modifier.isPublic(made[0].getModifiers()),
            "the constructors are " + Arrays.toString(made));
        check(Modifier.isFinal(SleetLine.class.getModifiers()), "the class is not final");
    }

    private static String told(Method m) {
        StringBuilder s = new StringBuilder(m.getReturnType().getName()).append(' ').append(m.getName()).append('(');
        for (int i = 0; i < m.getParameterCount(); i++) {
            s.append(i > 0 ? "," : "").append(m.getParameterTypes()[i].getName());
        }
        return s.append(')').toString();
    }

    /** Static fields are constants: a static object, final or not, would be shared by all objects of the class. */
    private static void finalIfStatic(Field f) {
        if (Modifier.isStatic(f.getModifiers())) {
            check(Modifier.isFinal(f.getModifiers()), f + " is static, not final");
            check(Set.of(int.class, long.class, boolean.class, char.class, String.class, int[].class, long[].class,
                char[].class, byte[].class).contains(f.getType()), f + " is static, but no constant");
        }
    }

    /** Rule 11: parameters of a method, fields beside the constants. */
    private static void shape(Class<?> c) {
        int fields = 0;
        for (Field f : c.getDeclaredFields()) {
            finalIfStatic(f);
            fields += Modifier.isStatic(f.getModifiers()) ? 0 : 1;
        }
        check(fields <= 20, c + " has " + fields + " fields");
        for (Method m : c.getDeclaredMethods()) {
            check(m.getParameterCount() <= 7, m + " takes too much");
        }
    }

    private static void nested() {
        Class<?>[] classes = SleetLine.class.getDeclaredClasses();
        check(classes.length < 12, "there are " + classes.length + " classes inside");
        for (Class<?> c : classes) {
            check(Modifier.isStatic(c.getModifiers()) && !Modifier.isPublic(c.getModifiers()), c + " is open or inner");
            shape(c);
        }
    }

    private static void source(String text) {
        for (int i = 0; i < text.length(); i++) {
            check(text.charAt(i) < 128, "a sign above 127 stands at " + i);
        }
        String code = text.replaceAll("(?s)/\\*.*?\\*/", " ").replaceAll("//[^\n]*", " ");
        Matcher word = Pattern.compile("\\b(throw|throws|try|catch|finally|synchronized|assert|import|package|native"
            + "|volatile|System\\.(?!arraycopy)\\w+|Thread|Random|\\w+Exact)\\b|->|::").matcher(code);
        while (word.find()) {
            check(false, "the file has " + word.group());
        }
        // All that the class holds is made with the object, so that no run of calls fills the room.
        for (String line : code.split("\n")) {
            check(!line.contains("new ") || line.matches(" +(private )?(final )?\\w+(\\[\\])? \\w+ = .*;"),
                "an object is made here: " + line);
        }
        libraryAsListed(code);
        methodsAreShort(code);
        callsStayShallow(code);
    }

    private static void libraryAsListed(String code) {
        Matcher used = Pattern.compile("\\b([A-Z]\\w*[a-z]\\w*)(\\.\\w+)?").matcher(code);
        Set<String> fine = Set.of("Math.max", "Math.min", "Integer.bitCount", "System.arraycopy");
        Set<String> own = new TreeSet<>(Set.of("SleetLine"));
        for (Class<?> c : SleetLine.class.getDeclaredClasses()) {
            own.add(c.getSimpleName());
        }
        while (used.find()) {
            check(own.contains(used.group(1)) || fine.contains(used.group()), "the file uses " + used.group());
        }
    }

    /** Rule 11 again: by the names of methods, a call of itself left out, no chain of calls has more than eight. */
    private static void callsStayShallow(String code) {
        Map<String, Set<String>> calls = new HashMap<>();
        String open = null;
        for (String line : code.split("\n")) {
            Matcher begun = Pattern.compile(" +(?:(?:public|private|static) )*[\\w\\[\\]]+ (\\w+)\\(.*\\) \\{").matcher(line);
            if (begun.matches() && !line.contains("else if")) {
                open = begun.group(1);
                calls.putIfAbsent(open, new TreeSet<>());
            } else if (open != null) {
                Matcher called = Pattern.compile("(\\w+)\\(").matcher(line);
                while (called.find()) {
                    calls.get(open).add(called.group(1));
                }
            }
        }
        for (Method m : SleetLine.class.getDeclaredMethods()) {
            check(calls.containsKey(m.getName()), "the test does not see the method " + m.getName());
            int deep = depth(calls, m.getName(), 1);
            check(deep <= 8, m.getName() + " calls " + deep + " deep");
        }
    }

    private static int depth(Map<String, Set<String>> calls, String name, int level) {
        int deepest = level;
        // A ring of calls would go on for ever: it is as wrong as a chain that is too long.
        if (level <= 20) {
            for (String called : calls.get(name)) {
                if (!called.equals(name) && calls.containsKey(called)) {
                    deepest = Math.max(deepest, depth(calls, called, level + 1));
                }
            }
        }
        return deepest;
    }

    private static void methodsAreShort(String code) {
        int depth = 0;
        int since = 0;
        int at = 0;
        for (String line : code.split("\n")) {
            at++;
            if (line.matches(" +.*\\) \\{") && !line.matches(" +(\\} )?(else )?(if|for|while|switch) ?.*")) {
                since = at;
                depth = line.indexOf(line.trim());
            }
            if (since > 0 && line.length() > depth && line.indexOf('}') == depth) {
                check(at - since <= 60, "a method of " + (at - since) + " lines ends at line " + at);
                since = 0;
            }
        }
    }
}
