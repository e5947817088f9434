import java.lang.reflect.Constructor;
import java.lang.reflect.Field;
import java.lang.reflect.Member;
import java.lang.reflect.Method;
import java.lang.reflect.Modifier;
import java.nio.file.Files;
import java.nio.file.Path;
import java.util.ArrayList;
import java.util.Arrays;
import java.util.List;
import java.util.Set;
import java.util.TreeSet;
import java.util.regex.Pattern;

/** The public face is the document's and no more; the file keeps to what a test can see of LANGUAGE.md. */
public final class FaceTest {
    private static final List<String> FACE = List.of(
            "int letter(int)", "int blank()", "int fault()", "int sea()", "int needle(int, int)",
            "int as(int, int)", "int points(int, int)", "int swing(int, int)", "int island(int)",
            "int raise(int, boolean)", "int step(int)", "int follow(int)", "int homing()",
            "int see(int, int, int)", "int forget()", "int storms(int, int, int)", "int image()",
            "int restore()", "int count(int)", "long digest()");
    private static final List<String> CONSTANTS = List.of(
            "NONE = -1", "UNKNOWN = -101", "OUTSIDE = -102", "STATE = -103", "FULL = -104");
    private static final Set<Class<?>> CONSTANT_TYPES = Set.of(int.class, long.class, boolean.class, char.class,
            String.class, int[].class, long[].class, char[].class, byte[].class);
    private static int wrong = 0;

    public static void main(String[] args) throws Exception {
        methodsAreTheDocuments();
        constantsAreTheDocuments();
        constructorIsTheDocuments();
        staticFieldsAreFinal();
        methodsAndClassesStaySmall();
        onlyTheListedLibraryIsImported();
        wordsThatAreRuledOutAreNotThere();
        System.exit(wrong == 0 ? 0 : 1);
    }

    private static void due(String what, Object got, Object want) {
        if (!got.equals(want)) {
            wrong++;
            System.out.println(what + ": is " + got + ", due is " + want);
        }
    }

    private static boolean isOpen(Member member) {
        return !Modifier.isPrivate(member.getModifiers()) && !member.isSynthetic();
    }

    private static void methodsAreTheDocuments() {
        due("public final class", Modifier.toString(HomeNeedles.class.getModifiers()), "public final");
        Set<String> open = new TreeSet<>();
        Set<String> publicNames = new TreeSet<>();
        for (Method method : HomeNeedles.class.getDeclaredMethods()) {
            if (isOpen(method)) {
                due(method.getName() + " is", Modifier.toString(method.getModifiers()), "public");
                String parameters = Arrays.toString(method.getParameterTypes()).replace("[", "(").replace("]", ")");
                open.add(method.getReturnType() + " " + method.getName() + parameters);
                publicNames.add(method.getName());
            }
        }
        due("methods", open, new TreeSet<>(FACE));
        for (Method method : HomeNeedles.class.getDeclaredMethods()) {
            due("a private method named " + method.getName() + " as a public one",
                    !isOpen(method) && publicNames.contains(method.getName()), false);
        }
    }

    private static void constantsAreTheDocuments() throws Exception {
        Set<String> open = new TreeSet<>();
        for (Field field : HomeNeedles.class.getDeclaredFields()) {
            if (isOpen(field)) {
                due(field.getName() + " is", Modifier.toString(field.getModifiers()), "public static final");
                open.add(field.getName() + " = " + field.get(null));
            }
        }
        due("constants", open, new TreeSet<>(CONSTANTS));
    }

    private static void constructorIsTheDocuments() {
        Constructor<?>[] all = HomeNeedles.class.getDeclaredConstructors();
        due("constructors", all.length, 1);
        due("constructor", all[0].toString(), "public HomeNeedles()");
    }

    private static List<Class<?>> allClasses() {
        List<Class<?>> classes = new ArrayList<>(Arrays.asList(HomeNeedles.class.getDeclaredClasses()));
        classes.add(HomeNeedles.class);
        return classes;
    }

    private static void staticFieldsAreFinal() {
        for (Class<?> each : allClasses()) {
            due(each + " is static, if inside", each == HomeNeedles.class || Modifier.isStatic(each.getModifiers()), true);
            for (Field field : each.getDeclaredFields()) {
                int modifiers = field.getModifiers();
                due(field + " final if static", !Modifier.isStatic(modifiers) || Modifier.isFinal(modifiers), true);
                due(field + " of a constant's type if static",
                        !Modifier.isStatic(modifiers) || CONSTANT_TYPES.contains(field.getType()), true);
            }
        }
    }

    private static void methodsAndClassesStaySmall() {
        due("at most twelve classes", allClasses().size() <= 12, true);
        for (Class<?> each : allClasses()) {
            long fields = Arrays.stream(each.getDeclaredFields())
                    .filter(field -> !Modifier.isStatic(field.getModifiers())).count();
            due(each + " has at most twenty fields", fields <= 20, true);
            for (Method method : each.getDeclaredMethods()) {
                due(method + " takes at most seven", method.getParameterCount() <= 7, true);
                due(method + " is none of an object's own",
                        List.of("equals", "hashCode", "toString").contains(method.getName()), false);
            }
        }
    }

    private static void onlyTheListedLibraryIsImported() throws Exception {
        Set<String> listed = Set.of("java.util.Arrays", "java.util.ArrayList", "java.util.List", "java.util.Iterator");
        for (String line : Files.readAllLines(Path.of("src/main/java/HomeNeedles.java"))) {
            if (line.startsWith("import ")) {
                String name = line.substring(7).replace(";", "").trim();
                due("the import of " + name + " is listed", listed.contains(name), true);
            }
        }
    }

    private static void wordsThatAreRuledOutAreNotThere() throws Exception {
        String text = Files.readString(Path.of("src/main/java/HomeNeedles.java"));
        String code = text.replaceAll("(?s)/\\*.*?\\*/", " ").replaceAll("//[^\n]*", " ");
        for (String word : List.of("throw", "throws", "try", "catch", "synchronized", "assert", "package",
                "double", "float", "native", "volatile", "Random", "Thread", "currentTimeMillis", "nanoTime")) {
            due("the word " + word, Pattern.compile("\\b" + word + "\\b").matcher(code).find(), false);
        }
        due("a lambda or a method reference", code.contains("->") || code.contains("::"), false);
    }
}
