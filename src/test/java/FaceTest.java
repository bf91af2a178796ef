import java.lang.reflect.Constructor;
import java.lang.reflect.Field;
import java.lang.reflect.Method;
import java.lang.reflect.Modifier;
import java.util.Arrays;
import java.util.Set;
import java.util.TreeSet;

/** The face of the class: the document's constants, constructor and methods, and no others. */
public final class FaceTest {
    private static final Check check = new Check();
    private static final String[] NAMES = {
        "FINE", "BOXES", "BRAND", "ABSENT", "EXTENT", "FEATURE", "MISMATCH", "STREAM", "DATA",
    };

    public static void main(String[] args) throws ReflectiveOperationException {
        Class<?> face = StillPicture.class;
        check.due("public and final", Modifier.PUBLIC | Modifier.FINAL, face.getModifiers());
        constants(face);
        same("constructors", Set.of("StillPicture()"), constructorsOf(face));
        same("methods", Set.of("boolean add(int)", "boolean word(int)", "int patch(int,int)", "void clear()",
            "int size()", "int decode()", "int planes()", "int width()", "int height()", "int depth()"),
            methodsOf(face, 0));
        same("more methods", Set.of("int sample(int,int,int)", "int block(int,int,int)", "int blocks()",
            "int symbols()", "int taken()", "int table(int,int)"), methodsOf(face, 1));
        for (Class<?> inside : face.getDeclaredClasses()) {
            check.due(inside.getName() + " is static", true, Modifier.isStatic(inside.getModifiers()));
            check.due(inside.getName() + " is not public", false, Modifier.isPublic(inside.getModifiers()));
        }
        check.end();
    }

    private static void constants(Class<?> face) throws ReflectiveOperationException {
        for (int i = 0; i < NAMES.length; i++) {
            Field field = face.getField(NAMES[i]);
            check.due(NAMES[i] + " is an int", true, field.getType() == int.class);
            check.due(NAMES[i], i, field.getInt(null));
        }
        int seen = 0;
        for (Field field : face.getDeclaredFields()) {
            seen += Modifier.isPrivate(field.getModifiers()) ? 0 : 1;
        }
        check.due("fields that are seen", NAMES.length, seen);
    }

    private static Set<String> constructorsOf(Class<?> face) {
        Set<String> seen = new TreeSet<>();
        for (Constructor<?> made : face.getDeclaredConstructors()) {
            if (!Modifier.isPrivate(made.getModifiers())) {
                seen.add(made.getName() + types(made.getParameterTypes()));
            }
        }
        return seen;
    }

    /** The methods that are seen, in two halves: those for the file and the size, and those for the content. */
    private static Set<String> methodsOf(Class<?> face, int half) {
        Set<String> content = Set.of("sample", "block", "blocks", "symbols", "taken", "table");
        Set<String> seen = new TreeSet<>();
        for (Method method : face.getDeclaredMethods()) {
            boolean isSeen = !Modifier.isPrivate(method.getModifiers());
            if (isSeen && (content.contains(method.getName()) ? 1 : 0) == half) {
                seen.add(method.getReturnType().getName() + " " + method.getName() + types(method.getParameterTypes()));
            }
        }
        return seen;
    }

    private static String types(Class<?>[] types) {
        return Arrays.stream(types).map(Class::getName).toList().toString()
            .replace("[", "(").replace("]", ")").replace(", ", ",");
    }

    private static void same(String what, Set<String> want, Set<String> got) {
        check.due(what + " " + got, true, want.equals(got));
    }
}
