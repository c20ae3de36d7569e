import java.io.IOException;
import java.lang.reflect.Constructor;
import java.lang.reflect.Field;
import java.lang.reflect.Method;
import java.lang.reflect.Modifier;
import java.nio.file.Files;
import java.nio.file.Path;
import java.util.Set;
import java.util.TreeSet;
import java.util.regex.Matcher;
import java.util.regex.Pattern;

/** The public face is the document's and no more, and the source has none of the words that LANGUAGE.md rules out. */
public final class Face {
    private static final Set<String> METHODS = Set.of("int thread()", "int action(int, int, int, int, int)",
            "int clear()", "int runs(int)", "int outcome(int, int, int)", "int witness(int, int, int)",
            "int orders(int)", "int ordered(int, int, int)", "int graphs(int)", "int beyond(int, int)", "int races()",
            "int race(int, int, int, int)");
    private static final String[] RULED_OUT = {"throw", "throws", "try", "catch", "synchronized", "assert", "package",
        "Exact", "lambda", "random", "Random", "currentTimeMillis", "nanoTime", "volatile", "protected", "equals",
        "hashCode", "toString", "numberOfTrailingZeros"};
    private static int wrong = 0;

    public static void main(String[] args) throws IOException {
        members();
        nestedClasses();
        source();
        System.out.println(wrong == 0 ? "the face is as due" : wrong + " faults of the face");
        if (wrong != 0) {
            System.exit(1);
        }
    }

    private static void check(boolean right, String what) {
        if (!right) {
            wrong++;
            System.out.println(what);
        }
    }

    private static void members() {
        Class<?> face = OrderModels.class;
        check(Modifier.isPublic(face.getModifiers()) && Modifier.isFinal(face.getModifiers()), "not public and final");
        Set<String> shown = new TreeSet<>();
        Set<String> names = new TreeSet<>();
        for (Method method : face.getDeclaredMethods()) {
            if (!Modifier.isPrivate(method.getModifiers()) && !method.isSynthetic()) {
                shown.add(tell(method));
                names.add(method.getName());
                check(Modifier.isPublic(method.getModifiers()), "not public: " + method);
            }
        }
        check(shown.equals(new TreeSet<>(METHODS)), "methods are " + shown);
        for (Method method : face.getDeclaredMethods()) {
            boolean hidden = Modifier.isPrivate(method.getModifiers());
            check(!hidden || !names.contains(method.getName()), "private, but of a public name: " + method);
        }
        for (Field field : face.getDeclaredFields()) {
            boolean hidden = Modifier.isPrivate(field.getModifiers());
            check(hidden || field.getName().equals("NONE"), "shown: " + field);
            check(!Modifier.isStatic(field.getModifiers()) || Modifier.isFinal(field.getModifiers()), "static: " + field);
        }
        Constructor<?>[] constructors = face.getDeclaredConstructors();
        check(constructors.length == 1 && constructors[0].getParameterCount() == 0
                && Modifier.isPublic(constructors[0].getModifiers()), "constructors");
    }

    private static String tell(Method method) {
        StringBuilder text = new StringBuilder(method.getReturnType() + " " + method.getName() + "(");
        for (int i = 0; i < method.getParameterCount(); i++) {
            text.append(i == 0 ? "" : ", ").append(method.getParameterTypes()[i]);
        }
        return text + ")";
    }

    private static void nestedClasses() {
        Class<?>[] nested = OrderModels.class.getDeclaredClasses();
        check(nested.length <= 12, "classes: " + nested.length);
        for (Class<?> one : nested) {
            check(Modifier.isStatic(one.getModifiers()), "not static: " + one);
            check(one.getDeclaredFields().length <= 25, "many fields: " + one);
            for (Method method : one.getDeclaredMethods()) {
                check(method.getParameterCount() <= 7, "many parameters: " + method);
            }
        }
    }

    private static void source() throws IOException {
        String text = Files.readString(Path.of("src/main/java/OrderModels.java"));
        String code = text.replaceAll("(?s)/\\*.*?\\*/", "").replaceAll("//[^\n]*", "");
        for (String word : RULED_OUT) {
            check(!Pattern.compile("\\b" + word + "\\b").matcher(code).find(), "ruled out: " + word);
        }
        check(!code.contains("->") && !code.contains("::"), "a lambda or a method reference");
        Matcher imports = Pattern.compile("import ([^;]*);").matcher(code);
        while (imports.find()) {
            check(imports.group(1).equals("java.util.Arrays"), "import " + imports.group(1));
        }
        for (char c : text.toCharArray()) {
            check(c < 128, "character " + (int) c);
        }
    }
}
