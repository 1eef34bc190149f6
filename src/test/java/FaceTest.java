import java.io.IOException;
import java.lang.reflect.Constructor;
import java.lang.reflect.Field;
import java.lang.reflect.Method;
import java.lang.reflect.Modifier;
import java.nio.file.Files;
import java.nio.file.Path;
import java.util.HashSet;
import java.util.List;
import java.util.Set;
import java.util.TreeSet;

/** The document's face, member for member, and those rules of LANGUAGE.md that can be seen from outside. */
public final class FaceTest {
    private static final Set<String> LIBRARY = Set.of("java.util.ArrayList", "java.util.List", "java.util.Arrays",
            "java.util.NoSuchElementException");

    private static final String[] NOT_IN_THE_LANGUAGE = {
        "catch", "finally", "synchronized", "assert ", "->", "::", "Exact(", "System.out", "static {", "instanceof Object"
    };

    private static final String FACE = """
            int seat(int, int) IllegalArgumentException IllegalStateException
            int web(int, int) IndexOutOfBoundsException IllegalArgumentException UnsupportedOperationException
            int spring(int, int, int) IndexOutOfBoundsException IllegalArgumentException UnsupportedOperationException
            int change(int, int, int, int) IndexOutOfBoundsException IllegalArgumentException UnsupportedOperationException
            int tie(int) IndexOutOfBoundsException UnsupportedOperationException
            int pull(int, boolean, int, int) IndexOutOfBoundsException IllegalArgumentException UnsupportedOperationException
            int layer(int, char, int, int) IndexOutOfBoundsException IllegalArgumentException UnsupportedOperationException
            int buttons(int) IndexOutOfBoundsException UnsupportedOperationException
            int draw(int, int, int) IndexOutOfBoundsException IllegalArgumentException UnsupportedOperationException IllegalStateException
            int cover(int, int, int) IndexOutOfBoundsException IllegalArgumentException UnsupportedOperationException NoSuchElementException
            int sign(int) IndexOutOfBoundsException UnsupportedOperationException
            int open(int, int) IndexOutOfBoundsException IllegalArgumentException
            int steps(int) IndexOutOfBoundsException
            char step(int, int) IndexOutOfBoundsException NoSuchElementException
            boolean isSigned(int, int) IndexOutOfBoundsException NoSuchElementException
            boolean isClosed(int) IndexOutOfBoundsException
            int stands(int, int) IndexOutOfBoundsException
            int thick(int, int) IndexOutOfBoundsException NoSuchElementException
            int top(int, int) IndexOutOfBoundsException
            int folds(int, boolean) IndexOutOfBoundsException
            int buttonAt(int, int) IndexOutOfBoundsException NoSuchElementException
            int body() IllegalStateException
            int mass(int, int, int) IndexOutOfBoundsException IllegalArgumentException
            int sinks(int, int, int) IndexOutOfBoundsException UnsupportedOperationException
            int pressure(int, int, int) IndexOutOfBoundsException UnsupportedOperationException
            int comfort(int, int) IndexOutOfBoundsException UnsupportedOperationException
            int fit(int, int, int) IndexOutOfBoundsException UnsupportedOperationException
            int cloth(int, int) IllegalArgumentException IllegalStateException
            int flaw(int, int) IndexOutOfBoundsException UnsupportedOperationException IllegalStateException
            int left(int) IndexOutOfBoundsException
            int panel(int, int) IndexOutOfBoundsException NoSuchElementException
            int use(int, int) IndexOutOfBoundsException IllegalArgumentException UnsupportedOperationException
            int pound(int, int) IndexOutOfBoundsException IllegalArgumentException UnsupportedOperationException
            int hours(int) IndexOutOfBoundsException UnsupportedOperationException
            int land(int, char, int) IndexOutOfBoundsException IllegalArgumentException
            boolean burns(int, int) IndexOutOfBoundsException
            int tack(int, int, int) IndexOutOfBoundsException NoSuchElementException IllegalArgumentException
            int quarrels(int) IndexOutOfBoundsException
            int promise(int, int) IndexOutOfBoundsException IllegalArgumentException
            boolean holds(int) IndexOutOfBoundsException UnsupportedOperationException
            int quote(int) IndexOutOfBoundsException
            long checksum()
            float closedShare() NoSuchElementException
            double meanTop(int) IndexOutOfBoundsException
            boolean isSound()
            """;

    public static void main(String[] args) throws IOException {
        Class<?> workshop = Springseat.class;
        Script.same("public and final", Modifier.toString(workshop.getModifiers()), "public final");
        Constructor<?>[] made = workshop.getDeclaredConstructors();
        Script.same("constructors", made.length, 1);
        Script.same("the constructor", made[0].toString(), "public Springseat()");
        Script.same("the face", faceOf(workshop), new TreeSet<>(Set.of(FACE.trim().split("\\n"))));
        checkHidden(workshop);
        checkNames(workshop);
        checkInside(workshop);
        checkSource(Files.readString(Path.of("src/main/java/Springseat.java")));
        Script.end("FaceTest");
    }

    private static Set<String> faceOf(Class<?> workshop) {
        Set<String> face = new TreeSet<>();
        for (Method method : workshop.getDeclaredMethods()) {
            if (!Modifier.isPrivate(method.getModifiers())) {
                StringBuilder text = new StringBuilder(method.getReturnType().getName());
                text.append(' ').append(method.getName()).append('(');
                for (int i = 0; i < method.getParameterCount(); i++) {
                    text.append(i == 0 ? "" : ", ").append(method.getParameterTypes()[i].getName());
                }
                text.append(')');
                for (Class<?> thrown : method.getExceptionTypes()) {
                    text.append(' ').append(thrown.getSimpleName());
                }
                face.add(text.toString());
            }
        }
        return face;
    }

    private static void checkHidden(Class<?> workshop) {
        for (Field field : workshop.getDeclaredFields()) {
            Script.same(field + " is private", Modifier.isPrivate(field.getModifiers()), true);
        }
    }

    private static void checkNames(Class<?> workshop) {
        Set<String> faceNames = new TreeSet<>();
        Set<Method> others = new HashSet<>();
        for (Method method : workshop.getDeclaredMethods()) {
            if (Modifier.isPublic(method.getModifiers())) {
                faceNames.add(method.getName());
            } else {
                others.add(method);
            }
        }
        for (Class<?> inside : workshop.getDeclaredClasses()) {
            others.addAll(List.of(inside.getDeclaredMethods()));
        }
        for (Method method : others) {
            Script.same(method + " bears a name of the face", faceNames.contains(method.getName()), false);
        }
    }

    private static void checkInside(Class<?> workshop) {
        Script.same("at most twelve classes", workshop.getDeclaredClasses().length + 1 <= 12, true);
        checkShape(workshop);
        for (Class<?> inside : workshop.getDeclaredClasses()) {
            int modifiers = inside.getModifiers();
            Script.same(inside + " is static", Modifier.isStatic(modifiers), true);
            Script.same(inside + " is hidden", Modifier.isPublic(modifiers) || Modifier.isProtected(modifiers), false);
            checkShape(inside);
        }
    }

    private static void checkShape(Class<?> some) {
        int fields = 0;
        for (Field field : some.getDeclaredFields()) {
            if (Modifier.isStatic(field.getModifiers())) {
                Script.same(field + " is a constant", Modifier.isFinal(field.getModifiers())
                        && (field.getType().isPrimitive() || field.getType() == String.class), true);
            } else {
                fields++;
            }
        }
        Script.same(some + " has at most twenty fields", fields <= 20, true);
        for (Method method : some.getDeclaredMethods()) {
            Script.same(method + " takes at most seven", method.getParameterCount() <= 7, true);
        }
    }

    private static void checkSource(String source) {
        for (String line : source.split("\\n")) {
            if (line.startsWith("import ")) {
                Script.same(line + " is of the library", LIBRARY.contains(line.substring(7, line.length() - 1)), true);
            }
        }
        String code = source.replaceAll("(?s)/\\*.*?\\*/", "").replaceAll("//.*", "");
        for (String word : NOT_IN_THE_LANGUAGE) {
            Script.same("the source has " + word, code.contains(word), false);
        }
    }
}
