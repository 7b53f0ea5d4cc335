import java.io.IOException;
import java.lang.reflect.Constructor;
import java.lang.reflect.Field;
import java.lang.reflect.Method;
import java.lang.reflect.Modifier;
import java.nio.file.Files;
import java.nio.file.Path;
import java.util.ArrayList;
import java.util.List;
import java.util.Set;
import java.util.TreeSet;
import java.util.regex.Matcher;
import java.util.regex.Pattern;

/** What of the rules of LANGUAGE.md can be seen in the text and the members of GalleryRows. */
public final class LanguageTest {
    private static final Path SOURCE = Path.of("src/main/java/GalleryRows.java");
    private static final Path DOCUMENT = Path.of("../shared/DOC.md");
    private static final int LONGEST_METHOD = 60;

    private static int wrong = 0;

    public static void main(String[] args) throws IOException {
        face();
        insideClasses();
        String code = withoutComments(Files.readString(SOURCE));
        signs(Files.readString(SOURCE));
        words(code);
        library(code);
        lengths(code);
        System.out.println(wrong == 0 ? "LanguageTest: within the rules" : "LanguageTest: " + wrong + " outside the rules");
        if (wrong != 0) {
            System.exit(1);
        }
    }

    private static void need(boolean good, int rule, String what) {
        if (!good) {
            wrong++;
            System.out.println("rule " + rule + ": " + what);
        }
    }

    private static List<Class<?>> classes() {
        List<Class<?>> all = new ArrayList<>(List.of(GalleryRows.class.getDeclaredClasses()));
        all.add(GalleryRows.class);
        return all;
    }

    private static String signature(Method method) {
        StringBuilder text = new StringBuilder(method.getReturnType().getSimpleName()).append(' ');
        text.append(method.getName()).append('(');
        for (Class<?> type : method.getParameterTypes()) {
            text.append(text.charAt(text.length() - 1) == '(' ? "" : ", ").append(type.getSimpleName());
        }
        return text.append(')').toString();
    }

    private static Set<String> promised() throws IOException {
        Set<String> all = new TreeSet<>();
        Matcher line = Pattern.compile("public (int \\w+\\([^)]*\\));").matcher(Files.readString(DOCUMENT));
        while (line.find()) {
            all.add(line.group(1).replaceAll("(int|long) \\w+(?=[,)])", "$1"));
        }
        return all;
    }

    private static void face() throws IOException {
        Set<String> open = new TreeSet<>();
        Set<String> openNames = new TreeSet<>();
        for (Method method : GalleryRows.class.getDeclaredMethods()) {
            if (Modifier.isPublic(method.getModifiers())) {
                open.add(signature(method));
                openNames.add(method.getName());
            } else {
                need(Modifier.isPrivate(method.getModifiers()), 1, method + " is neither public nor private");
            }
        }
        need(open.size() == 33 && open.equals(promised()), 1, "the face is " + open);
        need(Modifier.isFinal(GalleryRows.class.getModifiers()), 1, "the class is not final");
        Constructor<?>[] ways = GalleryRows.class.getDeclaredConstructors();
        need(ways.length == 1 && ways[0].getParameterCount() == 0, 1, "the constructors");
        for (Field field : GalleryRows.class.getDeclaredFields()) {
            need(Modifier.isPrivate(field.getModifiers()), 1, field + " is not private");
        }
        for (Class<?> inside : classes()) {
            for (Method method : inside.getDeclaredMethods()) {
                boolean isHidden = Modifier.isPrivate(method.getModifiers());
                need(!isHidden || !openNames.contains(method.getName()), 1, method + " bears a public one's name");
            }
        }
    }

    private static void insideClasses() {
        need(classes().size() <= 12, 11, "more than twelve classes");
        for (Class<?> one : classes()) {
            need(one == GalleryRows.class || Modifier.isStatic(one.getModifiers()), 2, one + " is not static");
            int fields = 0;
            for (Field field : one.getDeclaredFields()) {
                boolean isStatic = Modifier.isStatic(field.getModifiers());
                need(!isStatic || Modifier.isFinal(field.getModifiers()), 5, field + " is static and not final");
                fields += isStatic ? 0 : 1;
            }
            need(fields <= 20, 11, one + " has " + fields + " fields");
            for (Method method : one.getDeclaredMethods()) {
                need(method.getParameterCount() <= 7, 11, method + " takes too many");
            }
        }
    }

    private static String withoutComments(String text) {
        return text.replaceAll("(?s)/\\*.*?\\*/", "").replaceAll("//[^\n]*", "");
    }

    private static void signs(String text) {
        for (int i = 0; i < text.length(); i++) {
            need(text.charAt(i) < 128, 4, "sign " + (int) text.charAt(i) + " at " + i);
        }
    }

    private static void words(String code) {
        String[] ruledOut = {"throw", "throws", "try", "catch", "finally", "synchronized", "assert", "volatile",
            "transient", "native", "import", "package", "var", "hashCode", "toString", "Object", "double", "float"};
        for (String word : ruledOut) {
            need(!Pattern.compile("\\b" + word + "\\b").matcher(code).find(), 6, "the word " + word);
        }
        need(!code.contains("->") && !code.contains("::"), 2, "a lambda or a method reference");
        need(!Pattern.compile("\\bstatic\\s*\\{").matcher(code).find(), 5, "a static block");
        need(!code.contains("while"), 9, "a loop without a counter");
        need(!code.contains("\""), 3, "a text");
    }

    private static void library(String code) {
        Matcher call = Pattern.compile("\\b([A-Z]\\w*[a-z]\\w*)\\.(\\w+)").matcher(code);
        Set<String> allowed = Set.of("Integer.bitCount", "Math.min", "Math.max", "System.arraycopy",
            "Line.at", "Line.with", "Line.without", "Line.firstOnes", "Line.bestCut", "Line.placeOfCut",
            "Line.yesIsLeft");
        while (call.find()) {
            need(allowed.contains(call.group()), 4, call.group());
        }
        Set<String> own = new TreeSet<>();
        for (Class<?> one : classes()) {
            own.add(one.getSimpleName());
        }
        Matcher made = Pattern.compile("\\bnew (\\w+)").matcher(code);
        while (made.find()) {
            need(own.contains(made.group(1)) || made.group(1).equals("int"), 4, made.group());
        }
    }

    private static void lengths(String code) {
        String name = "";
        int start = -1;
        String[] lines = code.split("\n");
        for (int i = 0; i < lines.length; i++) {
            Matcher head = Pattern.compile("^( {4}| {8})\\S.*\\b(\\w+)\\(.*\\) \\{$").matcher(lines[i]);
            if (head.find() && start < 0) {
                name = head.group(2);
                start = i;
            }
            if (start >= 0 && lines[i].matches("( {4}| {8})\\}")
                && lines[i].indexOf('}') == lines[start].length() - lines[start].stripLeading().length()) {
                need(i - start < LONGEST_METHOD, 11, name + " has " + (i - start + 1) + " lines");
                start = -1;
            }
        }
        need(start < 0, 11, "the end of " + name + " is not found");
    }
}
