import java.io.IOException;
import java.lang.reflect.Method;
import java.lang.reflect.Modifier;
import java.nio.file.DirectoryStream;
import java.nio.file.Files;
import java.nio.file.Path;
import java.util.regex.Matcher;
import java.util.regex.Pattern;

/** What README.md tells is so: the answers of its example are due, and each call and each test is in it. */
public final class Readme {
    private static final Pattern CALL = Pattern.compile("m\\.(\\w+)\\(([-\\d, ]*)\\); +// (-?\\d+)");
    private static int wrong = 0;

    public static void main(String[] args) throws IOException, ReflectiveOperationException {
        String text = Files.readString(Path.of("README.md"));
        example(text);
        calls(text);
        tests(text);
        System.out.println(wrong == 0 ? "README.md is as due" : wrong + " faults of README.md");
        if (wrong != 0) {
            System.exit(1);
        }
    }

    private static void check(boolean right, String what) {
        if (!right) {
            wrong++;
            System.out.println(what);
        }
    }

    private static void example(String text) throws ReflectiveOperationException {
        OrderModels m = new OrderModels();
        for (String line : text.split("\n")) {
            if (!line.startsWith("m.")) {
                continue;
            }
            Matcher call = CALL.matcher(line);
            if (call.find()) {
                int got = answer(m, call.group(1), call.group(2));
                check(got == Integer.parseInt(call.group(3)), "answered " + got + ": " + line);
            } else {
                check(false, "no answer told: " + line);
            }
        }
    }

    private static int answer(OrderModels m, String name, String arguments) throws ReflectiveOperationException {
        String[] numbers = arguments.isEmpty() ? new String[0] : arguments.split(", ");
        Class<?>[] types = new Class<?>[numbers.length];
        Object[] values = new Object[numbers.length];
        for (int i = 0; i < numbers.length; i++) {
            types[i] = int.class;
            values[i] = Integer.valueOf(numbers[i]);
        }
        return (Integer) OrderModels.class.getMethod(name, types).invoke(m, values);
    }

    private static void calls(String text) {
        for (Method method : OrderModels.class.getDeclaredMethods()) {
            if (Modifier.isPublic(method.getModifiers())) {
                String name = method.getName();
                check(text.contains("\nm." + name + "("), "no example of " + name);
                check(text.contains("| `" + name + "("), "no row for " + name);
            }
        }
    }

    private static void tests(String text) throws IOException {
        try (DirectoryStream<Path> files = Files.newDirectoryStream(Path.of("src/test/java"), "*.java")) {
            for (Path file : files) {
                String name = file.getFileName().toString().replace(".java", "");
                check(Pattern.compile("\\b" + name + "\\b").matcher(text).find(), "nothing told of " + name);
            }
        }
    }
}
