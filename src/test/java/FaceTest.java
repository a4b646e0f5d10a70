import java.lang.reflect.Constructor;
import java.lang.reflect.Field;
import java.lang.reflect.Method;
import java.lang.reflect.Modifier;
import java.nio.charset.StandardCharsets;
import java.nio.file.Files;
import java.nio.file.Path;
import java.util.ArrayList;
import java.util.Arrays;
import java.util.List;
import java.util.Set;
import java.util.TreeSet;
import java.util.regex.Matcher;
import java.util.regex.Pattern;

/** The public face as the document lists it, and those rules of LANGUAGE.md that can be seen at a glance. */
public final class FaceTest {
    private static int wrong = 0;

    private static void check(String what, Object got, Object due) {
        if (!got.equals(due)) {
            wrong++;
            System.out.println(what + " is " + got + ", due is " + due);
        }
    }

    private static final String[] CONSTANTS = {
        "NONE=-1", "LEFT=0", "RIGHT=1", "INSIDE=0", "OUTSIDE=1", "FORWARD=0", "BACKWARD=1",
        "THREE=0", "ROCKER=1", "MOHAWK=2", "CHOCTAW=3", "SLIDE=4", "STEP=5",
        "TOE=0", "SALCHOW=1", "LOOP=2", "FLIP=3", "LUTZ=4", "AXEL=5",
    };

    private static final String[] METHODS = {
        "int skater() [IllegalStateException]",
        "void begin(int) [IndexOutOfBoundsException, IllegalStateException]",
        "int turn(int) [IllegalArgumentException, IllegalStateException]",
        "int jump(int, int, boolean) [IllegalArgumentException, IllegalStateException]",
        "int spin(int, int) [IllegalArgumentException, IllegalStateException]",
        "int end() [IllegalStateException]",
        "int call(int, int, int) [IndexOutOfBoundsException, IllegalArgumentException, IllegalStateException]",
        "void grade(int, int, int, int) [IndexOutOfBoundsException, IllegalArgumentException, IllegalStateException]",
        "void component(int, int, int, int) "
            + "[IndexOutOfBoundsException, IllegalArgumentException, IllegalStateException]",
        "int value(int, int, int, int) [IllegalArgumentException]",
        "int element(int, int, int, int) [IndexOutOfBoundsException, IllegalArgumentException]",
        "int programme(int, int, int) [IndexOutOfBoundsException, IllegalArgumentException]",
        "int starts(int, int) [IllegalArgumentException]",
        "int bias(int) [IndexOutOfBoundsException]",
        "boolean addsUp() []",
    };

    private static String names(Class<?>[] types) {
        List<String> names = new ArrayList<>();
        for (Class<?> type : types) {
            names.add(type.getSimpleName());
        }
        return String.join(", ", names);
    }

    private static String told(Method method) {
        return method.getReturnType().getSimpleName() + " " + method.getName()
            + "(" + names(method.getParameterTypes()) + ") [" + names(method.getExceptionTypes()) + "]";
    }

    private static void testConstants() throws Exception {
        Set<String> got = new TreeSet<>();
        for (Field field : EdgeCode.class.getDeclaredFields()) {
            int modifiers = field.getModifiers();
            if (!Modifier.isPrivate(modifiers)) {
                check(field.getName() + " is public static final",
                    Modifier.isPublic(modifiers) && Modifier.isStatic(modifiers) && Modifier.isFinal(modifiers), true);
                got.add(field.getName() + "=" + field.getInt(null));
            } else if (Modifier.isStatic(modifiers)) {
                check(field.getName() + " is final", Modifier.isFinal(modifiers), true);
            }
        }
        check("the constants", got, new TreeSet<>(Arrays.asList(CONSTANTS)));
    }

    private static void testMethods() {
        Set<String> got = new TreeSet<>();
        Set<String> publicNames = new TreeSet<>();
        for (Method method : EdgeCode.class.getDeclaredMethods()) {
            int modifiers = method.getModifiers();
            if (!Modifier.isPrivate(modifiers) && !method.isSynthetic()) {
                check(method.getName() + " is public", Modifier.isPublic(modifiers), true);
                check(method.getName() + " is static", Modifier.isStatic(modifiers), false);
                got.add(told(method));
                publicNames.add(method.getName());
            }
        }
        check("the methods", got, new TreeSet<>(Arrays.asList(METHODS)));
        for (Class<?> inside : EdgeCode.class.getDeclaredClasses()) {
            check(inside + " is static", Modifier.isStatic(inside.getModifiers()), true);
            check(inside + " is not public", Modifier.isPublic(inside.getModifiers()), false);
            for (Method method : inside.getDeclaredMethods()) {
                check(inside + " names " + method.getName() + " as the face does",
                    publicNames.contains(method.getName()), false);
            }
        }
        for (Method method : EdgeCode.class.getDeclaredMethods()) {
            if (Modifier.isPrivate(method.getModifiers())) {
                check("a private method named " + method.getName(), publicNames.contains(method.getName()), false);
            }
        }
    }

    private static void testClass() {
        check("the class is public and final",
            Modifier.isPublic(EdgeCode.class.getModifiers()) && Modifier.isFinal(EdgeCode.class.getModifiers()), true);
        Constructor<?>[] constructors = EdgeCode.class.getDeclaredConstructors();
        check("constructors", constructors.length, 1);
        check("the constructor is public", Modifier.isPublic(constructors[0].getModifiers()), true);
        check("the constructor's parameters", constructors[0].getParameterCount(), 0);
        check("it has no package", EdgeCode.class.getName(), "EdgeCode");
    }

    private static final String[] FORBIDDEN = {
        "->", "::", "\\bcatch\\b", "\\bfinally\\b", "\\bsynchronized\\b", "\\bassert\\b", "\\bimport\\b",
        "\\bpackage\\b", "\\bSystem\\b", "\\bThread\\b", "\\bObject\\b", "\\bMath\\.(?!min\\b|max\\b|abs\\b)",
        "\"\\s*\\+", "\\+\\s*\"", "\\bstatic\\s*\\{", "[^\\x00-\\x7f]",
    };

    private static void testText() throws Exception {
        Path path = Path.of("src", "main", "java", "EdgeCode.java");
        String text = new String(Files.readAllBytes(path), StandardCharsets.UTF_8);
        String code = text.replaceAll("(?s)/\\*.*?\\*/", "").replaceAll("//[^\\n]*", "");
        for (String forbidden : FORBIDDEN) {
            Matcher matcher = Pattern.compile(forbidden).matcher(code);
            check("the program's text with " + forbidden, matcher.find(), false);
        }
    }

    public static void main(String[] args) throws Exception {
        testClass();
        testConstants();
        testMethods();
        testText();
        if (wrong != 0) {
            System.exit(1);
        }
    }
}
