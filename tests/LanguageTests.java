import java.io.InputStream;
import java.lang.reflect.Field;
import java.lang.reflect.Method;
import java.lang.reflect.Modifier;
import java.nio.charset.StandardCharsets;
import java.nio.file.Files;
import java.nio.file.Path;
import java.util.ArrayList;
import java.util.List;
import java.util.Set;
import java.util.regex.Matcher;
import java.util.regex.Pattern;

/** Looks for what LANGUAGE.md rules out, as far as the text of the program and its classes show it. */
final class LanguageTests {
    private static final String[] RULED_OUT = {
        "throw", "throws", "try", "catch", "synchronized", "assert", "instanceof", "import", "package",
        "protected", "System.out", "Random", "nanoTime", "currentTimeMillis"};

    private LanguageTests() {
    }

    static void run(Path program) throws Exception {
        String code = withoutComments(Files.readString(program));
        words(code);
        objects(code);
        shortMethods(code);
        library(code);
        List<Class<?>> all = new ArrayList<>(List.of(CliffSerial.class.getDeclaredClasses()));
        Check.holds("at most twelve classes", all.size() < 12);
        for (Class<?> inside : all) {
            Check.holds(inside + " is hidden and static", Modifier.isPrivate(inside.getModifiers())
                    && Modifier.isStatic(inside.getModifiers()) && inside.getDeclaredClasses().length == 0);
        }
        all.add(CliffSerial.class);
        for (Class<?> one : all) {
            members(one);
            namesInFile(one);
        }
    }

    private static void words(String code) {
        for (String word : RULED_OUT) {
            Check.holds("no " + word, !Pattern.compile("\\b" + Pattern.quote(word) + "\\b").matcher(code).find());
        }
        Check.holds("no ->", !code.contains("->"));
        Check.holds("no method reference", !code.contains("::"));
        Check.holds("no function that is Exact", !Pattern.compile("Exact\\b").matcher(code).find());
        Check.holds("nested classes are static",
                occurrences(code, "\\bclass\\b") - 1 == occurrences(code, "\\bprivate static final class\\b"));
    }

    /** With this, only constructors and initialisers make objects, and a call makes none. */
    private static void objects(String code) {
        for (String line : code.split("\n")) {
            if (Pattern.compile("\\bnew\\b").matcher(line).find()) {
                Check.holds("made for a field: " + line.trim(),
                        line.contains("final ") || line.trim().matches("(slots|states)\\[\\w+] = new \\w+\\(\\);"));
            }
        }
    }

    /** Rules 1, 3, 5 and 11. */
    private static void members(Class<?> one) {
        int fields = 0;
        for (Field field : one.getDeclaredFields()) {
            boolean isStatic = Modifier.isStatic(field.getModifiers());
            fields += isStatic ? 0 : 1;
            String allowed = isStatic ? "int|\\[I" : "int|\\[{1,2}I|\\[Z|(\\[L)?CliffSerial\\$\\w+;?";
            Check.holds("type of " + field, field.getType().getName().matches(allowed));
            Check.holds(field + " is final", !isStatic || Modifier.isFinal(field.getModifiers()));
        }
        Check.holds("some twenty fields of " + one, fields <= 20);
        for (Method method : one.getDeclaredMethods()) {
            Check.holds("seven parameters of " + method, method.getParameterCount() <= 7);
            Check.holds(method + " bears a name of its own",
                    Modifier.isPublic(method.getModifiers()) || !isOfTheFace(method.getName()));
        }
    }

    private static boolean isOfTheFace(String name) {
        for (Method method : CliffSerial.class.getDeclaredMethods()) {
            if (Modifier.isPublic(method.getModifiers()) && method.getName().equals(name)) {
                return true;
            }
        }
        return false;
    }

    /** Rule 4, by the text of the program. */
    private static void library(String code) {
        Matcher calls = Pattern.compile("\\b([A-Z]\\w*)\\.(\\w+)\\(").matcher(code);
        while (calls.find()) {
            String call = calls.group(1) + "." + calls.group(2);
            Check.holds("of the library: " + call, Set.of("System.arraycopy", "Math.max", "Math.min").contains(call));
        }
    }

    /** Rule 4, by the names of classes that the compiled one holds. */
    private static void namesInFile(Class<?> one) throws Exception {
        try (InputStream file = CliffSerial.class.getResourceAsStream(one.getName() + ".class")) {
            String bytes = new String(file.readAllBytes(), StandardCharsets.ISO_8859_1);
            Matcher names = Pattern.compile("javax?/[\\w/]+").matcher(bytes);
            while (names.find()) {
                Check.holds("of the library: " + names.group(),
                        Set.of("java/lang/Object", "java/lang/System", "java/lang/Math").contains(names.group()));
            }
        }
    }

    private static void shortMethods(String code) {
        String[] lines = code.split("\n");
        int begin = -1;
        String end = "";
        for (int i = 0; i < lines.length; i++) {
            String line = lines[i];
            boolean opens = line.endsWith("{") && line.contains(")") && !line.contains(" class ");
            if (begin < 0 && opens && line.matches(" {4}(\\w.*)|( {8}\\w.*)")) {
                begin = i;
                end = line.replaceAll("\\S.*", "") + "}";
            }
            if (begin >= 0 && line.equals(end)) {
                Check.holds("short: " + lines[begin].trim(), i - begin < 60);
                begin = -1;
            }
        }
    }

    private static int occurrences(String code, String pattern) {
        Matcher matcher = Pattern.compile(pattern).matcher(code);
        int found = 0;
        while (matcher.find()) {
            found++;
        }
        return found;
    }

    private static String withoutComments(String code) {
        return code.replaceAll("(?s)/\\*.*?\\*/", "").replaceAll("//[^\n]*", "");
    }
}
