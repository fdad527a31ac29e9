import java.lang.reflect.Constructor;
import java.lang.reflect.Field;
import java.lang.reflect.Method;
import java.lang.reflect.Modifier;
import java.util.Set;
import java.util.TreeSet;

/** The public face is the document's, and nothing else can be seen from outside (LANGUAGE.md, rules 1 and 5). */
public final class FaceTest {
    private static final Check CHECK = new Check();

    private static final Set<String> METHODS = Set.of(
            "boolean stage(int, int, int, int)",
            "int unstage()",
            "int commit(int, int) IllegalArgumentException IllegalStateException UnsupportedOperationException",
            "int version(int)",
            "int total()",
            "int stored(int, int) NoSuchElementException",
            "void learn(int, int, int, int) IllegalArgumentException",
            "int comes(int) NoSuchElementException",
            "int load(int, int) IllegalArgumentException",
            "long field(int)",
            "int snapshot(int, int)",
            "void follow(int, int, int, int) IllegalArgumentException",
            "int poll(int, int) IllegalArgumentException",
            "int done(int) IllegalArgumentException",
            "int cursor(int)",
            "int hand(int, int) NoSuchElementException");

    public static void main(String[] args) {
        CHECK.begin("the face");
        int modifiers = UpcastStreams.class.getModifiers();
        CHECK.due("public", Modifier.isPublic(modifiers), true);
        CHECK.due("final", Modifier.isFinal(modifiers), true);
        constants();
        constructors();
        methods();
        staticFields();
        CHECK.end();
    }

    private static void constants() {
        CHECK.due("ANY", UpcastStreams.ANY, -1);
        CHECK.due("NONE", UpcastStreams.NONE, -1);
        Set<String> seen = new TreeSet<>();
        for (Field f : UpcastStreams.class.getDeclaredFields()) {
            if (!Modifier.isPrivate(f.getModifiers())) {
                seen.add(f.getName());
            }
        }
        CHECK.dueText("fields that are not private", seen.toString(), "[ANY, NONE]");
    }

    private static void constructors() {
        Constructor<?>[] all = UpcastStreams.class.getDeclaredConstructors();
        CHECK.due("constructors", all.length, 1);
        CHECK.dueText("the constructor", all[0].toString(), "public UpcastStreams(int)");
    }

    private static void methods() {
        Set<String> names = new TreeSet<>();
        Set<String> seen = new TreeSet<>();
        for (Method m : UpcastStreams.class.getDeclaredMethods()) {
            if (!Modifier.isPrivate(m.getModifiers())) {
                CHECK.due(m.getName() + " is public", Modifier.isPublic(m.getModifiers()), true);
                seen.add(told(m));
                names.add(m.getName());
            }
        }
        CHECK.dueText("methods", seen.toString(), new TreeSet<>(METHODS).toString());
        hiddenNames(UpcastStreams.class, names);
        for (Class<?> inside : UpcastStreams.class.getDeclaredClasses()) {
            CHECK.due(inside.getName() + " is static", Modifier.isStatic(inside.getModifiers()), true);
            hiddenNames(inside, names);
        }
    }

    private static void hiddenNames(Class<?> type, Set<String> names) {
        for (Method m : type.getDeclaredMethods()) {
            boolean taken = type != UpcastStreams.class || Modifier.isPrivate(m.getModifiers());
            CHECK.due(m + " bears a public name", taken && names.contains(m.getName()), false);
        }
    }

    private static String told(Method m) {
        StringBuilder text = new StringBuilder();
        text.append(m.getReturnType().getSimpleName()).append(' ').append(m.getName()).append('(');
        for (int i = 0; i < m.getParameterCount(); i++) {
            text.append(i == 0 ? "" : ", ").append(m.getParameterTypes()[i].getSimpleName());
        }
        text.append(')');
        for (Class<?> thrown : m.getExceptionTypes()) {
            text.append(' ').append(thrown.getSimpleName());
        }
        return text.toString();
    }

    private static void staticFields() {
        for (Field f : UpcastStreams.class.getDeclaredFields()) {
            if (Modifier.isStatic(f.getModifiers())) {
                CHECK.due(f.getName() + " is final", Modifier.isFinal(f.getModifiers()), true);
            }
        }
    }
}
