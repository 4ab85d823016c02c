import java.lang.reflect.Constructor;
import java.lang.reflect.Field;
import java.lang.reflect.Method;
import java.lang.reflect.Modifier;
import java.util.Set;
import java.util.TreeSet;

/** The class's face is the document's, and nothing of it beside that can be seen from outside. */
public final class FaceTest {
    private static int wrong = 0;

    private static void due(String what, Object got, Object want) {
        if (!got.equals(want)) {
            wrong++;
            System.out.println(what + " is " + got + ", due is " + want);
        }
    }

    public static void main(String[] args) {
        Class<TurnedKeys> face = TurnedKeys.class;
        due("the class", Modifier.toString(face.getModifiers()), "public final");
        due("the class above", face.getSuperclass(), Object.class);
        due("what it implements", face.getInterfaces().length, 0);
        due("the methods", methodsOf(face), new TreeSet<>(Set.of(
                "public int send(int)", "public int take(int, int)", "public int look(int)",
                "public int derived(int)", "public int opens(int)", "public int back(int)",
                "public int keep(int)", "public int end(int, int)", "public int agree()",
                "public int count(int)")));
        due("the constructors", constructorsOf(face), new TreeSet<>(Set.of("public ()")));
        due("the fields", fieldsOf(face), new TreeSet<>(Set.of("public static final int NONE")));
        for (Class<?> inside : face.getDeclaredClasses()) {
            int modifiers = inside.getModifiers();
            due(inside + " is static", Modifier.isStatic(modifiers), true);
            due(inside + " is public", Modifier.isPublic(modifiers), false);
            due(inside + " is protected", Modifier.isProtected(modifiers), false);
        }
        System.out.println(wrong == 0 ? "the face is as due" : wrong + " parts of the face are not as due");
        if (wrong != 0) {
            System.exit(1);
        }
    }

    private static Set<String> methodsOf(Class<?> face) {
        Set<String> found = new TreeSet<>();
        for (Method method : face.getDeclaredMethods()) {
            if (!Modifier.isPrivate(method.getModifiers())) {
                found.add(Modifier.toString(method.getModifiers()) + " " + method.getReturnType() + " "
                        + method.getName() + listed(method.getParameterTypes()));
            }
        }
        return found;
    }

    private static Set<String> constructorsOf(Class<?> face) {
        Set<String> found = new TreeSet<>();
        for (Constructor<?> constructor : face.getDeclaredConstructors()) {
            found.add(Modifier.toString(constructor.getModifiers()) + " "
                    + listed(constructor.getParameterTypes()));
        }
        return found;
    }

    private static Set<String> fieldsOf(Class<?> face) {
        Set<String> found = new TreeSet<>();
        for (Field field : face.getDeclaredFields()) {
            if (!Modifier.isPrivate(field.getModifiers())) {
                found.add(Modifier.toString(field.getModifiers()) + " " + field.getType() + " "
                        + field.getName());
            }
        }
        return found;
    }

    private static String listed(Class<?>[] types) {
        StringBuilder text = new StringBuilder("(");
        for (int i = 0; i < types.length; i++) {
            text.append(i == 0 ? "" : ", ").append(types[i]);
        }
        return text.append(')').toString();
    }
}
