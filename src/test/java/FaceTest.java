import java.lang.reflect.Constructor;
import java.lang.reflect.Field;
import java.lang.reflect.Method;
import java.lang.reflect.Modifier;
import java.util.Set;
import java.util.TreeSet;

/** The public face: what the document lists, and nothing else that is not private. */
public final class FaceTest {
    public static void main(String[] args) {
        int modifiers = PartsDesk.class.getModifiers();
        Check.due("public", true, () -> Modifier.isPublic(modifiers));
        Check.due("final", true, () -> Modifier.isFinal(modifiers));
        String refusing = " throws java.lang.IllegalArgumentException";
        Set<String> due = new TreeSet<>(Set.of("PartsDesk()", "boolean write(char)", "int numerator()" + refusing,
            "int denominator()" + refusing + ", java.lang.IllegalStateException", "long coefficient(int, int)", "int many(int)",
            "long part(int, int, int)" + refusing, "long integral(int, int, int)" + refusing, "long value(int, int)" + refusing,
            "double at(double)" + refusing, "double byParts(double)" + refusing));
        Check.due("the face", due, FaceTest::face);
        for (Method method : PartsDesk.class.getDeclaredMethods()) {
            boolean isPrivate = Modifier.isPrivate(method.getModifiers());
            Check.due("private " + method.getName() + " bears no public name", false, () -> isPrivate && isPublicName(method.getName()));
        }
        for (Field field : PartsDesk.class.getDeclaredFields()) {
            Check.due(field.getName() + " is private", true, () -> Modifier.isPrivate(field.getModifiers()));
            boolean isFree = !Modifier.isStatic(field.getModifiers()) || Modifier.isFinal(field.getModifiers());
            Check.due(field.getName() + " is final if static", true, () -> isFree);
        }
        for (Class<?> inside : PartsDesk.class.getDeclaredClasses()) {
            Check.due(inside.getName() + " is static", true, () -> Modifier.isStatic(inside.getModifiers()));
        }
        Check.end();
    }

    private static boolean isPublicName(String name) {
        for (Method method : PartsDesk.class.getDeclaredMethods()) {
            if (Modifier.isPublic(method.getModifiers()) && method.getName().equals(name)) {
                return true;
            }
        }
        return false;
    }

    private static Set<String> face() {
        Set<String> face = new TreeSet<>();
        for (Constructor<?> constructor : PartsDesk.class.getDeclaredConstructors()) {
            if (!Modifier.isPrivate(constructor.getModifiers())) {
                face.add("PartsDesk(" + names(constructor.getParameterTypes()) + ")" + thrown(constructor.getExceptionTypes()));
            }
        }
        for (Method method : PartsDesk.class.getDeclaredMethods()) {
            if (!Modifier.isPrivate(method.getModifiers())) {
                face.add(method.getReturnType() + " " + method.getName() + "(" + names(method.getParameterTypes()) + ")"
                    + thrown(method.getExceptionTypes()));
            }
        }
        return face;
    }

    private static String thrown(Class<?>[] types) {
        return types.length == 0 ? "" : " throws " + names(types);
    }

    private static String names(Class<?>[] types) {
        StringBuilder text = new StringBuilder();
        for (Class<?> type : types) {
            text.append(text.length() == 0 ? "" : ", ").append(type.getName());
        }
        return text.toString();
    }
}
