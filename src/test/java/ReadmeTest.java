import java.io.IOException;
import java.lang.reflect.Method;
import java.lang.reflect.Modifier;
import java.nio.file.Files;
import java.nio.file.Path;
import java.util.List;
import java.util.regex.Matcher;
import java.util.regex.Pattern;
import java.util.stream.Collectors;
import java.util.stream.Stream;

/** README.md tells the truth: its examples answer as it says, and it names every call and every test. */
public final class ReadmeTest {
    private static final Path README = Path.of("README.md");
    private static final Path TESTS = Path.of("src/test/java");
    private static final String BEGIN = "GalleryRows house = new GalleryRows();";
    private static final Pattern CALL = Pattern.compile("house\\.(\\w+)\\(([^)]*)\\); +// (-?\\d+)(:.*)?");

    private static int wrong = 0;
    private static int answers = 0;
    private static GalleryRows house = null;

    public static void main(String[] args) throws IOException, ReflectiveOperationException {
        List<String> lines = Files.readAllLines(README);
        examples(lines);
        String text = String.join("\n", lines);
        namesEveryCall(text);
        namesEveryTest(text);
        need(answers > 0, "README.md has no example");
        System.out.println(wrong == 0 ? "ReadmeTest: " + answers + " answers as told" : "ReadmeTest: " + wrong + " wrong");
        if (wrong != 0) {
            System.exit(1);
        }
    }

    private static void need(boolean good, String fault) {
        if (!good) {
            wrong++;
            System.out.println(fault);
        }
    }

    private static void examples(List<String> lines) throws ReflectiveOperationException {
        boolean isJava = false;
        for (String line : lines) {
            if (line.startsWith("```")) {
                isJava = line.equals("```java");
                house = null;
            } else if (isJava) {
                example(line);
            }
        }
    }

    private static void example(String line) throws ReflectiveOperationException {
        Matcher call = CALL.matcher(line);
        if (line.equals(BEGIN)) {
            house = new GalleryRows();
        } else if (house == null || !call.matches()) {
            need(false, "not to be tried: " + line);
        } else {
            int got = answer(call.group(1), call.group(2));
            answers++;
            need(got == Integer.parseInt(call.group(3)), "answered " + got + ": " + line);
        }
    }

    private static int answer(String name, String told) throws ReflectiveOperationException {
        String[] words = told.isEmpty() ? new String[0] : told.split(", ");
        for (Method method : GalleryRows.class.getMethods()) {
            if (method.getName().equals(name) && method.getParameterCount() == words.length) {
                return (Integer) method.invoke(house, values(method, words));
            }
        }
        throw new NoSuchMethodException(name + "(" + told + ")");
    }

    private static Object[] values(Method method, String[] words) {
        Object[] values = new Object[words.length];
        for (int i = 0; i < words.length; i++) {
            boolean isLong = method.getParameterTypes()[i] == long.class;
            values[i] = isLong ? (Object) Long.decode(words[i].replace("L", "")) : (Object) Integer.decode(words[i]);
        }
        return values;
    }

    private static void namesEveryCall(String text) {
        for (Method method : GalleryRows.class.getDeclaredMethods()) {
            boolean isOpen = Modifier.isPublic(method.getModifiers());
            need(!isOpen || text.contains("`" + method.getName() + "`"), "README.md does not name " + method.getName());
        }
    }

    private static void namesEveryTest(String text) throws IOException {
        try (Stream<Path> files = Files.list(TESTS)) {
            for (Path file : files.collect(Collectors.toList())) {
                String name = file.getFileName().toString().replace(".java", "");
                need(text.contains("`" + name + "`"), "README.md does not name " + name);
            }
        }
    }
}
