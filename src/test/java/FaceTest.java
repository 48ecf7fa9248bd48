import java.lang.reflect.Constructor;
import java.lang.reflect.Field;
import java.lang.reflect.Method;
import java.lang.reflect.Modifier;
import java.util.ArrayList;
import java.util.Collections;
import java.util.List;

/** The public face: just what the document lists, and nothing beside it. */
public final class FaceTest {
    private static final String[] FACE = {
        "long digest()",
        "double mean()",
        "int advise(int, int) throws IllegalArgumentException",
        "int agrees()",
        "int come(int, int) throws IllegalArgumentException, IllegalStateException",
        "int count(int) throws IndexOutOfBoundsException",
        "int foresee(int, int) throws IllegalArgumentException, IndexOutOfBoundsException",
        "int half(int, boolean, int) throws IndexOutOfBoundsException",
        "int hears(int, int) throws IndexOutOfBoundsException",
        "int left(int) throws IllegalArgumentException",
        "int listen(int, int) throws IndexOutOfBoundsException, IllegalArgumentException, IllegalStateException",
        "int parrot(int, int) throws IndexOutOfBoundsException",
        "int pass(int) throws IllegalArgumentException",
        "int raise(int, int) throws IndexOutOfBoundsException, IllegalArgumentException",
        "int source(int) throws IndexOutOfBoundsException",
        "int verdict()",
        "int votes(int) throws IllegalArgumentException",
        "int whisper(int, int, int) throws IndexOutOfBoundsException, IllegalArgumentException",
    };

    public static void main(String[] args) {
        Class<?> face = ParrotJury.class;
        int flags = face.getModifiers();
        Due.holds("the class is public and final", Modifier.isPublic(flags) && Modifier.isFinal(flags));
        Due.holds("it extends nothing", face.getSuperclass() == Object.class && face.getInterfaces().length == 0);
        Constructor<?>[] made = face.getDeclaredConstructors();
        Due.holds("one constructor, public, without arguments", made.length == 1
            && Modifier.isPublic(made[0].getModifiers()) && made[0].getParameterCount() == 0);
        methodsOf(face);
        for (Field field : face.getDeclaredFields()) {
            Due.holds(field + " is private", Modifier.isPrivate(field.getModifiers()));
            staticIsFinal(field);
        }
        for (Class<?> inside : face.getDeclaredClasses()) {
            int of = inside.getModifiers();
            Due.holds(inside + " is static", Modifier.isStatic(of));
            Due.holds(inside + " is private or package-visible", !Modifier.isPublic(of) && !Modifier.isProtected(of));
            for (Field field : inside.getDeclaredFields()) {
                staticIsFinal(field);
            }
        }
        Due.holds("there are at most twelve classes", face.getDeclaredClasses().length + 1 <= 12);
        isSmall(face);
        for (Class<?> inside : face.getDeclaredClasses()) {
            isSmall(inside);
        }
        Due.end("FaceTest");
    }

    /** LANGUAGE.md, rule 11: at most twenty fields beside the constants, at most seven parameters. */
    private static void isSmall(Class<?> part) {
        int fields = 0;
        for (Field field : part.getDeclaredFields()) {
            fields += Modifier.isStatic(field.getModifiers()) ? 0 : 1;
        }
        Due.holds(part + " has at most twenty fields", fields <= 20);
        for (Method method : part.getDeclaredMethods()) {
            Due.holds(method + " takes at most seven parameters", method.getParameterCount() <= 7);
        }
    }

    private static void staticIsFinal(Field field) {
        int flags = field.getModifiers();
        Due.holds(field + " is no state of the class", !Modifier.isStatic(flags) || Modifier.isFinal(flags));
    }

    private static void methodsOf(Class<?> face) {
        List<String> open = new ArrayList<>();
        List<String> names = new ArrayList<>();
        for (Method method : face.getDeclaredMethods()) {
            if (Modifier.isPublic(method.getModifiers())) {
                open.add(told(method));
                names.add(method.getName());
            }
        }
        for (Method method : face.getDeclaredMethods()) {
            if (!Modifier.isPublic(method.getModifiers())) {
                Due.holds(method + " is private", Modifier.isPrivate(method.getModifiers()));
                Due.holds(method + " bears no public name", !names.contains(method.getName()));
            }
        }
        List<String> due = new ArrayList<>(List.of(FACE));
        Collections.sort(due);
        Collections.sort(open);
        Due.holds("the face is " + open + ", due is " + due, open.equals(due));
    }

    private static String told(Method method) {
        StringBuilder text = new StringBuilder();
        text.append(method.getReturnType()).append(' ').append(method.getName()).append('(');
        text.append(names(method.getParameterTypes())).append(')');
        if (method.getExceptionTypes().length > 0) {
            text.append(" throws ").append(names(method.getExceptionTypes()));
        }
        return text.toString();
    }

    private static String names(Class<?>[] types) {
        List<String> names = new ArrayList<>();
        for (Class<?> type : types) {
            names.add(type.getSimpleName());
        }
        return String.join(", ", names);
    }
}
