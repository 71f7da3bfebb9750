import java.nio.file.Files;
import java.nio.file.Path;
import java.util.regex.Matcher;
import java.util.regex.Pattern;

/** Looks for what LANGUAGE.md rules out, as far as the text of the program shows it. */
final class LanguageTests {
    private static final String[] RULED_OUT = {
        "throw", "throws", "try", "catch", "synchronized", "assert", "instanceof", "import", "package",
        "protected", "System.out", "Random", "nanoTime", "currentTimeMillis"};

    private LanguageTests() {
    }

    static void run(String path) throws Exception {
        String code = withoutComments(Files.readString(Path.of(path)));
        for (String word : RULED_OUT) {
            Check.holds("no " + word, !Pattern.compile("\\b" + Pattern.quote(word) + "\\b").matcher(code).find());
        }
        Check.holds("no ->", !code.contains("->"));
        Check.holds("no method reference", !code.contains("::"));
        Check.holds("no function that is Exact", !Pattern.compile("Exact\\b").matcher(code).find());
        Check.holds("at most twelve classes", occurrences(code, "\\bclass\\b") <= 12);
        Check.holds("nested classes are static",
                occurrences(code, "\\bclass\\b") - 1 == occurrences(code, "\\bprivate static final class\\b"));
        // With this, only constructors and initialisers make objects, and a call makes none.
        for (String line : code.split("\n")) {
            if (Pattern.compile("\\bnew\\b").matcher(line).find()) {
                Check.holds("made for a field: " + line.trim(),
                        line.contains("final ") || line.trim().matches("(slots|states)\\[\\w+] = new \\w+\\(\\);"));
            }
        }
        shortMethods(code);
    }

    private static void shortMethods(String code) {
        String[] lines = code.split("\n");
        int begin = -1;
        String end = "";
        for (int i = 0; i < lines.length; i++) {
            String line = lines[i];
            boolean opens = line.endsWith("{") && line.contains(")") && !line.contains(" class ");
            if (begin < 0 && opens && line.matches(" {4}(\\w.*)|( {8}\\w.*)")) {
                begin = i;
                end = line.replaceAll("\\S.*", "") + "}";
            }
            if (begin >= 0 && line.equals(end)) {
                Check.holds("short: " + lines[begin].trim(), i - begin < 60);
                begin = -1;
            }
        }
    }

    private static int occurrences(String code, String pattern) {
        Matcher matcher = Pattern.compile(pattern).matcher(code);
        int found = 0;
        while (matcher.find()) {
            found++;
        }
        return found;
    }

    private static String withoutComments(String code) {
        return code.replaceAll("(?s)/\\*.*?\\*/", "").replaceAll("//[^\n]*", "");
    }
}
