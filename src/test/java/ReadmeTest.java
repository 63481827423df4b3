import java.io.IOException;
import java.lang.reflect.Method;
import java.lang.reflect.Modifier;
import java.nio.charset.StandardCharsets;
import java.nio.file.Files;
import java.nio.file.Path;
import java.util.List;
import java.util.regex.Matcher;
import java.util.regex.Pattern;
import java.util.stream.Collectors;
import java.util.stream.Stream;

/** README.md: its example answers as its comments say, and it names every method and every test. */
public final class ReadmeTest {
    private static final Check CHECK = new Check();
    private static final Pattern CALL = Pattern.compile("wheel\\.(\\w+)\\(([-\\d, ]*)\\);\\s*// (-?\\d+)\\b.*");
    private static final Pattern TYPING =
            Pattern.compile("for \\(char c : \"([^\"]*)\"\\.toCharArray\\(\\)\\) wheel\\.append\\(c\\);");

    public static void main(String[] args) throws IOException, ReflectiveOperationException {
        String page = new String(Files.readAllBytes(Path.of("README.md")), StandardCharsets.UTF_8);
        example(page);
        names(page);
        CHECK.end();
    }

    private static void example(String page) throws ReflectiveOperationException {
        LightWheel wheel = new LightWheel();
        int calls = 0;
        for (String line : page.split("```")[1].split("\n")) {
            Matcher call = CALL.matcher(line);
            Matcher typing = TYPING.matcher(line);
            if (call.matches()) {
                calls++;
                CHECK.due(line, answer(wheel, call.group(1), call.group(2)), Integer.parseInt(call.group(3)));
            } else if (typing.matches()) {
                Check.type(wheel, typing.group(1));
            } else {
                CHECK.holds("the line is understood: " + line, line.isEmpty() || line.equals("java")
                        || line.equals("LightWheel wheel = new LightWheel();"));
            }
        }
        CHECK.holds("the example has calls", calls > 10);
    }

    private static int answer(LightWheel wheel, String name, String list) throws ReflectiveOperationException {
        String[] words = list.isEmpty() ? new String[0] : list.split(", ");
        Class<?>[] types = new Class<?>[words.length];
        Object[] values = new Object[words.length];
        for (int i = 0; i < words.length; i++) {
            types[i] = int.class;
            values[i] = Integer.parseInt(words[i]);
        }
        return (Integer) LightWheel.class.getMethod(name, types).invoke(wheel, values);
    }

    private static void names(String page) throws IOException {
        for (Method method : LightWheel.class.getDeclaredMethods()) {
            if (Modifier.isPublic(method.getModifiers())) {
                CHECK.holds("README.md tells of " + method.getName(), page.contains("| `" + method.getName() + "("));
            }
        }
        List<String> tests;
        try (Stream<Path> files = Files.list(Path.of("src/test/java"))) {
            tests = files.map(file -> file.getFileName().toString()).filter(name -> name.endsWith("Test.java"))
                    .map(name -> name.replace(".java", "")).collect(Collectors.toList());
        }
        for (String test : tests) {
            CHECK.holds("README.md tells of " + test, page.contains("| `" + test + "` |"));
        }
        Matcher told = Pattern.compile("\\| `(\\w+Test)` \\|").matcher(page);
        while (told.find()) {
            CHECK.holds("there is a " + told.group(1), tests.contains(told.group(1)));
        }
    }
}
