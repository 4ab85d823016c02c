import java.lang.reflect.Constructor;
import java.lang.reflect.Executable;
import java.lang.reflect.Field;
import java.lang.reflect.Method;
import java.lang.reflect.Modifier;
import java.nio.file.Files;
import java.nio.file.Path;
import java.util.ArrayList;
import java.util.List;
import java.util.Set;
import java.util.TreeSet;
import java.util.regex.Matcher;
import java.util.regex.Pattern;

/** The rules of LANGUAGE.md that can be seen in the class's text or by reflection. */
public final class LanguageTest {
    /** Words, as patterns, that no rule leaves a use for in this class. */
    private static final String[] FORBIDDEN = {
        "throw", "throws", "try", "catch", "finally", "synchronized", "assert", "package", "volatile",
        "native", "\\w+Exact", "hashCode", "toString", "System\\.(?!arraycopy)\\w+", "Random",
        "Thread", "Object"};

    private static int wrong = 0;

    private static void hold(boolean holds, String otherwise) {
        if (!holds) {
            wrong++;
            System.out.println(otherwise);
        }
    }

    public static void main(String[] args) throws Exception {
        wordsOfTheText(bareText());
        List<Class<?>> all = allClasses();
        hold(all.size() <= 12, "rule 11: " + all.size() + " classes");
        Set<String> publicNames = publicNames();
        for (Class<?> one : all) {
            classesInside(one);
            fieldsOf(one);
            methodsOf(one, publicNames);
        }
        System.out.println(wrong == 0 ? "the rules are kept" : wrong + " rules are broken");
        if (wrong != 0) {
            System.exit(1);
        }
    }

    private static String bareText() throws Exception {
        String text = Files.readString(Path.of("src/main/java/TurnedKeys.java"));
        return text.replaceAll("(?s)/\\*.*?\\*/", " ").replaceAll("//[^\n]*", " ");
    }

    private static void wordsOfTheText(String text) {
        for (String word : FORBIDDEN) {
            hold(!Pattern.compile("\\b" + word + "\\b").matcher(text).find(), "the word " + word);
        }
        hold(!text.contains("->") && !text.contains("::"), "rule 2: a lambda or a method reference");
        hold(!Pattern.compile("\\bwhile\\s*\\(\\s*true|for\\s*\\([^;]*;\\s*;").matcher(text).find(),
                "rule 9: a loop without an end");
        Matcher imported = Pattern.compile("\\bimport\\b([^;]*);").matcher(text);
        while (imported.find()) {
            String name = imported.group(1).trim();
            hold(name.equals("java.util.ArrayList"), "rule 4: import " + name);
        }
    }

    private static List<Class<?>> allClasses() {
        List<Class<?>> all = new ArrayList<>();
        all.add(TurnedKeys.class);
        for (int i = 0; i < all.size(); i++) {
            all.addAll(List.of(all.get(i).getDeclaredClasses()));
        }
        return all;
    }

    private static Set<String> publicNames() {
        Set<String> names = new TreeSet<>();
        for (Method method : TurnedKeys.class.getDeclaredMethods()) {
            if (Modifier.isPublic(method.getModifiers())) {
                names.add(method.getName());
            }
        }
        return names;
    }

    private static void classesInside(Class<?> one) {
        hold(one == TurnedKeys.class || Modifier.isStatic(one.getModifiers()),
                "rule 2: " + one + " is not static");
        hold(!one.isAnonymousClass() && !one.isLocalClass(), "rule 2: " + one);
    }

    private static void fieldsOf(Class<?> one) {
        int own = 0;
        for (Field field : one.getDeclaredFields()) {
            if (!Modifier.isStatic(field.getModifiers())) {
                own++;
            } else {
                hold(Modifier.isFinal(field.getModifiers()), "rule 5: " + field + " is not final");
                hold(field.getType() == int.class, "rule 5: " + field + " is no constant of int");
            }
        }
        hold(own <= 20, "rule 11: " + one + " has " + own + " fields");
    }

    private static void methodsOf(Class<?> one, Set<String> publicNames) {
        for (Constructor<?> constructor : one.getDeclaredConstructors()) {
            parametersOf(constructor);
        }
        for (Method method : one.getDeclaredMethods()) {
            parametersOf(method);
            hold(!method.isSynthetic(), "rule 2: " + method + " was made by the compiler");
            boolean ofTheFace = one == TurnedKeys.class && Modifier.isPublic(method.getModifiers());
            hold(ofTheFace || !publicNames.contains(method.getName()),
                    "rule 1: " + method + " bears the name of a public one");
        }
    }

    private static void parametersOf(Executable method) {
        hold(method.getParameterCount() <= 7, "rule 11: " + method + " takes more than seven");
    }
}
