import java.io.IOException;
import java.lang.reflect.Method;
import java.lang.reflect.Modifier;
import java.nio.file.Files;
import java.nio.file.Path;
import java.util.Set;
import java.util.TreeSet;
import java.util.regex.Matcher;
import java.util.regex.Pattern;

/** The calls that README.md shows answer what it says, and it tells of every call of the face. */
public final class ReadmeTest {
    private static final Pattern CALL = Pattern.compile("x\\.(\\w+)\\(([^)]*)\\); +// (-?\\d+).*");

    private static int wrong = 0;

    public static void main(String[] args) throws Exception {
        String readme = readme();
        Set<String> shown = new TreeSet<>();
        TurnedKeys x = new TurnedKeys();
        for (String line : exampleOf(readme).split("\n")) {
            if (!line.startsWith("TurnedKeys x = new TurnedKeys();")) {
                shown.add(run(x, line));
            }
        }
        for (Method method : TurnedKeys.class.getDeclaredMethods()) {
            String name = method.getName();
            if (Modifier.isPublic(method.getModifiers())) {
                hold(shown.contains(name), "the example does not show " + name);
                hold(readme.contains("| `" + name + "("), "the table does not tell of " + name);
            }
        }
        System.out.println(wrong == 0 ? "README.md is as due" : wrong + " parts of README.md are not as due");
        if (wrong != 0) {
            System.exit(1);
        }
    }

    private static void hold(boolean holds, String otherwise) {
        if (!holds) {
            wrong++;
            System.out.println(otherwise);
        }
    }

    private static String readme() throws IOException {
        return Files.readString(Path.of("README.md"));
    }

    private static String exampleOf(String readme) {
        String fence = "```java\n";
        int from = readme.indexOf(fence);
        int to = from < 0 ? -1 : readme.indexOf("```", from + fence.length());
        hold(to >= 0, "there is no example");
        return to < 0 ? "" : readme.substring(from + fence.length(), to);
    }

    private static String run(TurnedKeys x, String line) throws Exception {
        Matcher call = CALL.matcher(line);
        if (!call.matches()) {
            hold(false, "not a call with its answer: " + line);
            return "";
        }
        String[] texts = call.group(2).isEmpty() ? new String[0] : call.group(2).split(", ");
        Class<?>[] types = new Class<?>[texts.length];
        Object[] values = new Object[texts.length];
        for (int i = 0; i < texts.length; i++) {
            types[i] = int.class;
            values[i] = Integer.valueOf(texts[i]);
        }
        Object got = TurnedKeys.class.getMethod(call.group(1), types).invoke(x, values);
        hold(got.equals(Integer.valueOf(call.group(3))), "answered " + got + ": " + line);
        return call.group(1);
    }
}
