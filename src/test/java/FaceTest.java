import java.lang.reflect.Constructor;
import java.lang.reflect.Field;
import java.lang.reflect.Method;
import java.lang.reflect.Modifier;
import java.util.TreeSet;

/** The class shows the document's face and nothing else. */
public final class FaceTest {
    private static final String[] FACE = {
        "about(int, int): int throws IndexOutOfBoundsException",
        "advise(): int throws",
        "best(int, int, int): int throws IllegalArgumentException IndexOutOfBoundsException",
        "cell(int, int, int): int throws IndexOutOfBoundsException",
        "cord(int, int): int throws IndexOutOfBoundsException",
        "count(int): int throws IndexOutOfBoundsException",
        "digest(): long throws",
        "hang(int, int, int, int, int, int): int throws IllegalArgumentException IndexOutOfBoundsException IllegalStateException",
        "mean(): double throws",
        "move(int, int, int): int throws IndexOutOfBoundsException",
        "rain(int): int throws IllegalArgumentException",
        "roll(int): boolean throws IndexOutOfBoundsException",
        "share(int, int): int throws IndexOutOfBoundsException",
        "stall(int, int): int throws IndexOutOfBoundsException IllegalStateException",
        "take(int): int throws IndexOutOfBoundsException",
        "told(int, int): int throws IndexOutOfBoundsException",
        "would(int, int): int throws IndexOutOfBoundsException IllegalArgumentException",
    };

    public static void main(String[] args) {
        Class<MarketAwnings> face = MarketAwnings.class;
        Check.is("public", Modifier.isPublic(face.getModifiers()), true);
        Check.is("final", Modifier.isFinal(face.getModifiers()), true);
        Check.isText("package", face.getPackageName(), "");
        Check.isText("methods", shownMethods(face), shown(FACE));
        Check.is("constructors", face.getDeclaredConstructors().length, 1);
        for (Constructor<?> made : face.getDeclaredConstructors()) {
            Check.is("constructor is public", Modifier.isPublic(made.getModifiers()), true);
            Check.is("constructor's parameters", made.getParameterCount(), 0);
        }
        for (Field field : face.getDeclaredFields()) {
            Check.is("private: " + field.getName(), Modifier.isPrivate(field.getModifiers()), true);
            boolean ownOrFinal = !Modifier.isStatic(field.getModifiers()) || Modifier.isFinal(field.getModifiers());
            Check.is("no static state: " + field.getName(), ownOrFinal, true);
        }
        noPrivateNameOfTheFace(face);
        Check.end("FaceTest");
    }

    private static String shownMethods(Class<?> face) {
        TreeSet<String> found = new TreeSet<>();
        for (Method method : face.getDeclaredMethods()) {
            if (!Modifier.isPrivate(method.getModifiers())) {
                Check.is("public: " + method.getName(), Modifier.isPublic(method.getModifiers()), true);
                Check.is("of the object: " + method.getName(), Modifier.isStatic(method.getModifiers()), false);
                found.add(told(method));
            }
        }
        return found.toString();
    }

    private static String told(Method method) {
        StringBuilder text = new StringBuilder(method.getName()).append("(");
        String between = "";
        for (Class<?> parameter : method.getParameterTypes()) {
            text.append(between).append(parameter.getName());
            between = ", ";
        }
        text.append("): ").append(method.getReturnType().getName()).append(" throws");
        for (Class<?> thrown : method.getExceptionTypes()) {
            text.append(" ").append(thrown.getSimpleName());
        }
        return text.toString();
    }

    private static String shown(String[] face) {
        TreeSet<String> due = new TreeSet<>();
        for (String method : face) {
            due.add(method);
        }
        return due.toString();
    }

    private static void noPrivateNameOfTheFace(Class<?> face) {
        TreeSet<String> names = new TreeSet<>();
        for (String method : FACE) {
            names.add(method.substring(0, method.indexOf('(')));
        }
        TreeSet<Class<?>> all = new TreeSet<>((a, b) -> a.getName().compareTo(b.getName()));
        all.add(face);
        for (Class<?> inside : face.getDeclaredClasses()) {
            all.add(inside);
        }
        for (Class<?> one : all) {
            for (Method method : one.getDeclaredMethods()) {
                boolean ofTheFace = one == face && Modifier.isPublic(method.getModifiers());
                Check.is("no name of the face: " + one.getName() + "." + method.getName(),
                    !ofTheFace && names.contains(method.getName()), false);
            }
        }
    }
}
