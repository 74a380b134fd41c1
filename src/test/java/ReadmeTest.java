import java.io.IOException;
import java.lang.reflect.Field;
import java.lang.reflect.Method;
import java.lang.reflect.Modifier;
import java.nio.charset.StandardCharsets;
import java.nio.file.Files;
import java.nio.file.Path;
import java.util.Set;
import java.util.TreeSet;
import java.util.regex.Matcher;
import java.util.regex.Pattern;

/** The calls that README.md shows, in its order on one object, answer what it says; none of the face is left out. */
public final class ReadmeTest {
    private static final Pattern MADE = Pattern.compile("SleetLine x = new SleetLine\\(\\);");
    private static final Pattern TYPED =
        Pattern.compile("for \\(char b : \"([^\"]*)\"\\.toCharArray\\(\\)\\) x\\.type\\(b\\);");
    private static final Pattern CALLED =
        Pattern.compile("x\\.(\\w+)\\(((?:-?\\d+(?:, -?\\d+)*)?)\\); +// (-?\\d+)(?:[: ;].*)?");
    private static int wrong = 0;

    private static void fault(String what) {
        wrong++;
        System.out.println("README.md: " + what);
    }

    public static void main(String[] args) throws IOException, ReflectiveOperationException {
        String readme = Files.readString(Path.of("README.md"), StandardCharsets.UTF_8);
        Set<String> shown = new TreeSet<>();
        SleetLine x = null;
        boolean inCode = false;
        for (String line : readme.split("\n")) {
            if (line.startsWith("```")) {
                inCode = line.equals("```java");
            } else if (inCode && MADE.matcher(line).matches()) {
                x = new SleetLine();
            } else if (inCode) {
                example(x, line, shown);
            }
        }
        wholeFace(readme, shown);
        System.out.println(wrong == 0 ? "README.md says how it is" : wrong + " things are not as README.md says");
        if (wrong != 0) {
            System.exit(1);
        }
    }

    private static void example(SleetLine x, String line, Set<String> shown) throws ReflectiveOperationException {
        Matcher typed = TYPED.matcher(line);
        Matcher called = CALLED.matcher(line);
        if (x == null) {
            fault("no object is there yet: " + line);
        } else if (typed.matches()) {
            shown.add("type");
            for (char b : typed.group(1).toCharArray()) {
                x.type(b);
            }
        } else if (called.matches()) {
            shown.add(called.group(1));
            long got = answer(x, called.group(1), called.group(2));
            if (got != Long.parseLong(called.group(3))) {
                fault(line + " answered " + got);
            }
        } else {
            fault("this test can't read: " + line);
        }
    }

    private static long answer(SleetLine x, String name, String told) throws ReflectiveOperationException {
        String[] words = told.isEmpty() ? new String[0] : told.split(", ");
        Class<?>[] types = new Class<?>[words.length];
        Object[] numbers = new Object[words.length];
        for (int i = 0; i < words.length; i++) {
            types[i] = int.class;
            numbers[i] = Integer.valueOf(words[i]);
        }
        return ((Number) SleetLine.class.getMethod(name, types).invoke(x, numbers)).longValue();
    }

    private static void wholeFace(String readme, Set<String> shown) throws ReflectiveOperationException {
        for (Method m : SleetLine.class.getDeclaredMethods()) {
            if (Modifier.isPublic(m.getModifiers()) && !shown.contains(m.getName())) {
                fault("shows no call of " + m.getName());
            }
        }
        for (Field f : SleetLine.class.getFields()) {
            if (!readme.contains("`" + f.getName() + "` (" + f.getInt(null))) {
                fault("does not say what " + f.getName() + " is");
            }
        }
    }
}
