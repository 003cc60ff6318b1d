import java.lang.reflect.Constructor;
import java.lang.reflect.Field;
import java.lang.reflect.Method;
import java.lang.reflect.Modifier;
import java.util.Arrays;
import java.util.HashSet;
import java.util.Set;

/** The face is that of the document, and nothing else of the class can be seen (LANGUAGE.md, rules 1 and 5). */
public final class FaceTest {
    private static final String[] FACE = {
        "int lay(int) IllegalArgumentException IllegalStateException",
        "int mark(int, int, int, int, int, int) IndexOutOfBoundsException IllegalArgumentException IllegalStateException",
        "int cell(int, int, int) IndexOutOfBoundsException",
        "int skin(int, int) IndexOutOfBoundsException",
        "int cut(int, int, boolean, int, int) IndexOutOfBoundsException IllegalArgumentException IllegalStateException",
        "int place(int, int, boolean) IndexOutOfBoundsException IllegalArgumentException",
        "int piece(int, int) IndexOutOfBoundsException",
        "int sew(int) IllegalArgumentException IllegalStateException",
        "int rip(int) IndexOutOfBoundsException IllegalStateException",
        "int pair(int, int) IndexOutOfBoundsException",
        "int count(int) IndexOutOfBoundsException",
        "int gives(int, int, boolean) IndexOutOfBoundsException IllegalArgumentException",
        "int best(int, boolean) IllegalArgumentException",
        "int lacks(int, int) IllegalArgumentException",
        "int pairs(int) IllegalArgumentException",
        "double share()",
        "long digest()",
    };

    public static void main(String[] args) {
        Class<GloveCutters> type = GloveCutters.class;
        Check.same("the class is public and final", Modifier.PUBLIC | Modifier.FINAL, type.getModifiers());
        Set<String> found = new HashSet<>();
        Set<String> publicNames = new HashSet<>();
        for (Method method : type.getDeclaredMethods()) {
            if (Modifier.isPublic(method.getModifiers())) {
                found.add(spelled(method));
                publicNames.add(method.getName());
            }
        }
        for (String due : FACE) {
            Check.same("the face has " + due, 1, found.contains(due) ? 1 : 0);
        }
        Check.same("public methods", FACE.length, found.size());
        for (Method method : type.getDeclaredMethods()) {
            if (!Modifier.isPublic(method.getModifiers())) {
                Check.same(method.getName() + " is private", 1, Modifier.isPrivate(method.getModifiers()) ? 1 : 0);
                Check.same(method.getName() + " bears no public name", 0, publicNames.contains(method.getName()) ? 1 : 0);
            }
        }
        constructorAndFields(type);
        Check.end();
    }

    private static void constructorAndFields(Class<GloveCutters> type) {
        Constructor<?>[] constructors = type.getDeclaredConstructors();
        Check.same("constructors", 1, constructors.length);
        Check.same("its arguments", 0, constructors[0].getParameterCount());
        Check.same("it is public", 1, Modifier.isPublic(constructors[0].getModifiers()) ? 1 : 0);
        int notStatic = 0;
        for (Field field : type.getDeclaredFields()) {
            int how = field.getModifiers();
            Check.same(field.getName() + " is private", 1, Modifier.isPrivate(how) ? 1 : 0);
            if (Modifier.isStatic(how)) {
                Check.same(field.getName() + " is final", 1, Modifier.isFinal(how) ? 1 : 0);
            } else {
                notStatic++;
            }
        }
        Check.same("at most twenty fields", 1, notStatic <= 20 ? 1 : 0);
    }

    private static String spelled(Method method) {
        StringBuilder text = new StringBuilder();
        text.append(method.getReturnType().getSimpleName()).append(' ').append(method.getName());
        text.append(Arrays.toString(names(method.getParameterTypes())).replace('[', '(').replace(']', ')'));
        for (String thrown : names(method.getExceptionTypes())) {
            text.append(' ').append(thrown);
        }
        return text.toString();
    }

    private static String[] names(Class<?>[] types) {
        String[] names = new String[types.length];
        for (int i = 0; i < types.length; i++) {
            names[i] = types[i].getSimpleName();
        }
        return names;
    }
}
