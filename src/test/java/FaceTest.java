import java.io.IOException;
import java.lang.reflect.Constructor;
import java.lang.reflect.Field;
import java.lang.reflect.Member;
import java.lang.reflect.Method;
import java.lang.reflect.Modifier;
import java.nio.charset.StandardCharsets;
import java.nio.file.Files;
import java.nio.file.Path;
import java.util.Arrays;
import java.util.Set;
import java.util.TreeSet;
import java.util.regex.Matcher;
import java.util.regex.Pattern;

/** The class's face is the document's, and its file keeps to what of LANGUAGE.md a program can see. */
public final class FaceTest {
    private static final String SOURCE = "src/main/java/SleetLine.java";
    private static final String[] METHODS = {"int type(int)", "int clear()", "int wold()", "int column(int,int)",
        "int field(int,int,int)", "int voter(int,int)", "int days(int)", "int warms(int)", "int stakes(int)",
        "int pulls(int)", "int undo()", "int now(int)", "int first(int,int)", "int fair(int)", "int best(int)",
        "int power(int,int)", "int duel(int)", "int odds(int,int,int,int,int)", "int hears(int,int,int,int)",
        "int forget()", "int warmth(int)", "int ask()", "int mark(int,int)", "int keep(int)", "int back(int)",
        "int count(int)", "long trace()"};
    private static int wrong = 0;

    private static void check(boolean holds, String otherwise) {
        if (!holds) {
            wrong++;
            System.out.println(otherwise);
        }
    }

    public static void main(String[] args) throws IOException {
        face();
        nested();
        source(Files.readString(Path.of(SOURCE), StandardCharsets.ISO_8859_1));
        System.out.println(wrong == 0 ? "the face and the file are as told" : wrong + " things are not as told");
        if (wrong != 0) {
            System.exit(1);
        }
    }

    private static void face() {
        Set<String> found = new TreeSet<>();
        Set<String> hidden = new TreeSet<>();
        for (Method m : SleetLine.class.getDeclaredMethods()) {
            if (Modifier.isPublic(m.getModifiers())) {
                found.add(told(m));
                check(!Modifier.isStatic(m.getModifiers()), m + " is static");
            } else {
                hidden.add(m.getName());
                check(Modifier.isPrivate(m.getModifiers()), m + " is not private");
            }
        }
        check(found.equals(new TreeSet<>(Arrays.asList(METHODS))), "the public methods are " + found);
        for (String method : METHODS) {
            String name = method.substring(method.indexOf(' ') + 1, method.indexOf('('));
            check(!hidden.contains(name), "a private method is called " + name);
        }
        Set<String> constants = new TreeSet<>();
        for (Field f : SleetLine.class.getDeclaredFields()) {
            if (Modifier.isPublic(f.getModifiers())) {
                constants.add(f.getName());
                check(f.getType() == int.class, f + " is no int");
            } else {
                check(Modifier.isPrivate(f.getModifiers()), f + " is not private");
            }
            finalIfStatic(f);
        }
        check(constants.equals(Set.of("BAD", "STATE", "FULL", "NONE", "NO")), "the constants are " + constants);
        Constructor<?>[] made = SleetLine.class.getDeclaredConstructors();
        check(made.length == 1 && made[0].getParameterCount() == 0 && Modifier.isPublic(made[0].getModifiers()),
            "the constructors are " + Arrays.toString(made));
        check(Modifier.isFinal(SleetLine.class.getModifiers()), "the class is not final");
    }

    private static String told(Method m) {
        StringBuilder s = new StringBuilder(m.getReturnType().getName()).append(' ').append(m.getName()).append('(');
        for (int i = 0; i < m.getParameterCount(); i++) {
            s.append(i > 0 ? "," : "").append(m.getParameterTypes()[i].getName());
        }
        return s.append(')').toString();
    }

    private static void finalIfStatic(Member f) {
        check(!Modifier.isStatic(f.getModifiers()) || Modifier.isFinal(f.getModifiers()), f + " is static, not final");
    }

    private static void nested() {
        Class<?>[] classes = SleetLine.class.getDeclaredClasses();
        check(classes.length < 12, "there are " + classes.length + " classes inside");
        for (Class<?> c : classes) {
            check(Modifier.isStatic(c.getModifiers()) && !Modifier.isPublic(c.getModifiers()), c + " is open or inner");
            check(c.getDeclaredFields().length <= 20, c + " has too many fields");
            for (Field f : c.getDeclaredFields()) {
                finalIfStatic(f);
            }
            for (Method m : c.getDeclaredMethods()) {
                check(m.getParameterCount() <= 7, m + " takes too much");
            }
        }
    }

    private static void source(String text) {
        for (int i = 0; i < text.length(); i++) {
            check(text.charAt(i) < 128, "a sign above 127 stands at " + i);
        }
        String code = text.replaceAll("(?s)/\\*.*?\\*/", " ").replaceAll("//[^\n]*", " ");
        Matcher word = Pattern.compile("\\b(throw|throws|try|catch|finally|synchronized|assert|import|package|native"
            + "|volatile|System\\.(?!arraycopy)\\w+|Thread|Random|\\w+Exact)\\b|->|::").matcher(code);
        while (word.find()) {
            check(false, "the file has " + word.group());
        }
        // All that the class holds is made with the object, so that no run of calls fills the room.
        for (String line : code.split("\n")) {
            check(!line.contains("new ") || line.matches(" +(private )?(final )?\\w+(\\[\\])? \\w+ = .*;"),
                "an object is made here: " + line);
        }
        methodsAreShort(code);
    }

    private static void methodsAreShort(String code) {
        int depth = 0;
        int since = 0;
        int at = 0;
        for (String line : code.split("\n")) {
            at++;
            if (line.matches(" +.*\\) \\{") && !line.matches(" +(\\} )?(else )?(if|for|while|switch) ?.*")) {
                since = at;
                depth = line.indexOf(line.trim());
            }
            if (since > 0 && line.length() > depth && line.indexOf('}') == depth) {
                check(at - since <= 60, "a method of " + (at - since) + " lines ends at line " + at);
                since = 0;
            }
        }
    }
}
