import java.io.IOException;
import java.lang.reflect.InvocationTargetException;
import java.lang.reflect.Method;
import java.lang.reflect.Modifier;
import java.nio.file.DirectoryStream;
import java.nio.file.Files;
import java.nio.file.Path;
import java.util.ArrayList;
import java.util.List;
import java.util.regex.Matcher;
import java.util.regex.Pattern;

/** README.md says how to use the class: its example holds, and it names every call and every test. */
public final class ReadmeTest {
    private static final Path README = Path.of("README.md");
    private static final Pattern EXAMPLE = Pattern.compile("```java\n(.*?)```", Pattern.DOTALL);
    private static final Pattern CALL = Pattern.compile("x\\.(\\w+)\\((.*?)\\); *// (.*?): .*");
    private static final String MADE = "Bookinghouse x = new Bookinghouse();";
    private static final Check CHECK = new Check();

    public static void main(String[] args) throws IOException, ReflectiveOperationException {
        String text = Files.readString(README);
        exampleHolds(text);
        everyCallIsNamed(text);
        everyTestIsNamed(text);
        CHECK.end();
    }

    private static void exampleHolds(String text) throws ReflectiveOperationException {
        Matcher example = EXAMPLE.matcher(text);
        boolean found = example.find();
        CHECK.yes("that there is an example", found);
        if (!found) {
            return;
        }
        String[] lines = example.group(1).split("\n");
        CHECK.same("the first line", lines[0], MADE);
        CHECK.yes("that calls follow", lines.length > 10);
        Bookinghouse x = new Bookinghouse();
        for (int i = 1; i < lines.length; i++) {
            Matcher call = CALL.matcher(lines[i]);
            boolean isCall = call.matches();
            CHECK.yes("that this is a call and its answer: " + lines[i], isCall);
            if (isCall) {
                CHECK.same(lines[i], answer(x, call.group(1), call.group(2)), call.group(3));
            }
        }
    }

    private static String answer(Bookinghouse x, String name, String list) throws ReflectiveOperationException {
        List<Object> values = new ArrayList<>();
        for (String value : list.isEmpty() ? new String[0] : list.split(", ")) {
            values.add(value.startsWith("'") ? (Object) value.charAt(1) : (Object) Integer.valueOf(value));
        }
        try {
            return String.valueOf(named(name).invoke(x, values.toArray()));
        } catch (InvocationTargetException e) {
            return "throws " + e.getCause().getClass().getSimpleName();
        }
    }

    private static Method named(String name) throws NoSuchMethodException {
        for (Method method : Bookinghouse.class.getDeclaredMethods()) {
            if (Modifier.isPublic(method.getModifiers()) && method.getName().equals(name)) {
                return method;
            }
        }
        throw new NoSuchMethodException(name);
    }

    private static void everyCallIsNamed(String text) {
        for (Method method : Bookinghouse.class.getDeclaredMethods()) {
            if (Modifier.isPublic(method.getModifiers())) {
                int many = method.getParameterCount();
                String list = many == 0 ? "" : "\\w+(, \\w+){" + (many - 1) + "}";
                CHECK.yes("that it names " + method.getName() + " with its parameters",
                        Pattern.compile("`" + method.getName() + "\\(" + list + "\\)`").matcher(text).find());
            }
        }
    }

    private static void everyTestIsNamed(String text) throws IOException {
        try (DirectoryStream<Path> tests = Files.newDirectoryStream(Path.of("src/test/java"), "*Test.java")) {
            for (Path test : tests) {
                CHECK.yes("that it names " + test, text.contains("`" + test.toString().replace('\\', '/') + "`"));
            }
        }
        CHECK.yes("that it says how to run them", text.contains("\n    .ci/run\n"));
    }
}
