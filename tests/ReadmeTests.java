import java.lang.reflect.Field;
import java.lang.reflect.Method;
import java.lang.reflect.Modifier;
import java.nio.file.Files;
import java.nio.file.Path;
import java.util.ArrayList;
import java.util.List;
import java.util.regex.Matcher;
import java.util.regex.Pattern;
import java.util.stream.Collectors;
import java.util.stream.Stream;

/** README.md holds what it promises: its program, made and run by its own commands, and its tables. */
final class ReadmeTests {
    private ReadmeTests() {
    }

    /** The project's folder, and an empty one in which the program of README.md is made. */
    static void run(Path project, Path scratch) throws Exception {
        String page = Files.readString(project.resolve("README.md"));
        program(page, project, scratch);
        callsAreNamed(page);
        testsAreNamed(page, project);
    }

    private static void program(String page, Path project, Path scratch) throws Exception {
        String code = block(page, "java");
        String name = first(code, "public final class (\\w+)");
        Path source = Path.of("src", "main", "java", "CliffSerial.java");
        Files.createDirectories(scratch.resolve(source).getParent());
        Files.copy(project.resolve(source), scratch.resolve(source));
        Files.writeString(scratch.resolve(name + ".java"), code);
        String commands = page.substring(page.indexOf("It is compiled and run by"), page.indexOf("and prints"));
        String printed = "";
        List<String> made = new ArrayList<>();
        for (String line : commands.split("\n")) {
            if (line.startsWith("    ")) {
                made.add(line.trim().split(" ")[0]);
                printed = output(line.trim(), scratch);
            }
        }
        Check.holds("README.md tells how to compile and how to run: " + made, made.equals(List.of("javac", "java")));
        Check.holds("the program of README.md printed:\n" + printed, printed.equals(block(page, "text")));
    }

    private static String output(String command, Path folder) throws Exception {
        Path printed = folder.resolve("printed");
        Process process = new ProcessBuilder(command.split(" ")).directory(folder.toFile())
                .redirectErrorStream(true).redirectOutput(printed.toFile()).start();
        Check.due(command, process.waitFor(), 0);
        return Files.readString(printed);
    }

    private static String block(String page, String kind) {
        return first(page, "(?s)```" + kind + "\n(.*?)```");
    }

    private static String first(String text, String pattern) {
        Matcher matcher = Pattern.compile(pattern).matcher(text);
        return matcher.find() ? matcher.group(1) : "";
    }

    private static void callsAreNamed(String page) {
        for (Method method : CliffSerial.class.getDeclaredMethods()) {
            if (Modifier.isPublic(method.getModifiers())) {
                String list = first(page, "`" + method.getName() + "\\(([^)`]*)\\)`");
                int told = list.isEmpty() ? 0 : list.split(", ").length;
                Check.holds("README.md names " + method.getName() + "()", page.contains("`" + method.getName() + "("));
                Check.due("arguments of " + method.getName() + "() in README.md", told, method.getParameterCount());
            }
        }
        for (Field field : CliffSerial.class.getDeclaredFields()) {
            if (Modifier.isPublic(field.getModifiers())) {
                Check.holds("README.md names " + field.getName(), page.contains("`" + field.getName() + "`"));
            }
        }
    }

    private static void testsAreNamed(String page, Path project) throws Exception {
        List<String> names;
        try (Stream<Path> files = Files.list(project.resolve("tests"))) {
            names = files.map(file -> file.getFileName().toString()).filter(file -> file.endsWith(".java"))
                    .sorted().collect(Collectors.toList());
        }
        for (String name : names) {
            Check.holds("README.md names " + name, page.contains("`" + name.replace(".java", "") + "`"));
        }
        Matcher rows = Pattern.compile("(?m)^\\| (`\\w+`(?:, `\\w+`)*) \\| .*\\|$").matcher(page);
        while (rows.find()) {
            for (String name : rows.group(1).replace("`", "").split(", ")) {
                boolean isConstant = name.equals(name.toUpperCase());
                Check.holds("README.md names a test that is there: " + name,
                        isConstant || names.contains(name + ".java"));
            }
        }
    }
}
