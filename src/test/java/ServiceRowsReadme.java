import java.io.ByteArrayOutputStream;
import java.io.IOException;
import java.lang.reflect.Method;
import java.lang.reflect.Modifier;
import java.nio.charset.StandardCharsets;
import java.nio.file.DirectoryStream;
import java.nio.file.Files;
import java.nio.file.Path;
import java.util.ArrayList;
import java.util.List;
import java.util.Map;
import java.util.TreeSet;
import java.util.regex.Matcher;
import java.util.regex.Pattern;

/** README.md tells the truth: of each call its types and refusals, of the example its output. */
public final class ServiceRowsReadme {
    private static final Path README = Path.of("README.md");
    private static final Path BUILD = Path.of("build", "readme");
    private static final Map<String, String> WORDS = Map.of(
            "IllegalArgumentException", "unknown", "IndexOutOfBoundsException", "range",
            "IllegalStateException", "state", "UnsupportedOperationException", "room",
            "ArithmeticException", "arithmetic");

    private static int wrong = 0;

    private static void need(boolean holds, String what) {
        if (!holds) {
            wrong++;
            System.out.println("README.md is not as due: " + what);
        }
    }

    private static List<String> matches(String regex, String text) {
        List<String> found = new ArrayList<>();
        Matcher matcher = Pattern.compile(regex, Pattern.MULTILINE | Pattern.DOTALL).matcher(text);
        while (matcher.find()) {
            found.add(matcher.group(1));
        }
        return found;
    }

    /** A call as "int order(int) | unknown room". */
    private static String written(Method m) {
        List<String> types = new ArrayList<>();
        for (Class<?> type : m.getParameterTypes()) {
            types.add(type.getSimpleName());
        }
        List<String> words = new ArrayList<>();
        for (Class<?> type : m.getExceptionTypes()) {
            words.add(WORDS.get(type.getSimpleName()));
        }
        return m.getReturnType().getSimpleName() + " " + m.getName() + "("
                + String.join(", ", types) + ") | " + String.join(" ", words);
    }

    /** The same of a row of the table: `int order(int vehicle)` | .. | unknown: ..; room: .. */
    private static String written(String row) {
        String[] cells = row.split(" \\| ");
        String call = cells[0].replace("`", "").replaceAll("(int|boolean) \\w+(?=[,)])", "$1");
        List<String> words = new ArrayList<>();
        for (String refusal : cells[cells.length - 1].split("; ")) {
            words.add(refusal.replaceAll(":.*", ""));
        }
        return call + " | " + String.join(" ", words);
    }

    private static void checkCalls(String text) {
        TreeSet<String> due = new TreeSet<>();
        for (Method m : ServiceRows.class.getDeclaredMethods()) {
            if (Modifier.isPublic(m.getModifiers())) {
                due.add(written(m));
            }
        }
        TreeSet<String> told = new TreeSet<>();
        matches("^\\| (`\\w+ \\w+\\([^|]*\\)` \\|[^\n]*) \\|$", text)
                .forEach(row -> told.add(written(row)));
        for (String call : due) {
            need(told.contains(call), "it does not tell of " + call);
        }
        for (String call : told) {
            need(due.contains(call), "there is no " + call);
        }
    }

    private static void checkRefusals(String text) {
        WORDS.forEach((type, word) ->
                need(text.contains("| " + word + " | `" + type + "` |"), word + " is " + type));
    }

    private static void checkTests(String text) throws IOException {
        TreeSet<String> due = new TreeSet<>();
        try (DirectoryStream<Path> files =
                Files.newDirectoryStream(Path.of("src", "test", "java"), "*.java")) {
            files.forEach(file -> due.add(file.getFileName().toString().replace(".java", "")));
        }
        TreeSet<String> told = new TreeSet<>(matches("^- `(ServiceRows\\w+)`:", text));
        need(told.equals(due), "its tests are " + told + ", there are " + due);
    }

    /** Runs a command of the JDK; answers all that it prints. */
    private static String run(String... command) throws IOException, InterruptedException {
        Process process = new ProcessBuilder(command).redirectErrorStream(true).start();
        ByteArrayOutputStream printed = new ByteArrayOutputStream();
        process.getInputStream().transferTo(printed);
        need(process.waitFor() == 0, String.join(" ", command) + " went wrong: " + printed);
        return printed.toString(StandardCharsets.UTF_8);
    }

    private static void checkExample(String text) throws IOException, InterruptedException {
        List<String> examples = matches("^```java\n(.*?)^```$", text);
        need(examples.size() == 1, "it has one example");
        if (examples.size() != 1) {
            return;
        }
        Path file = BUILD.resolve("Example.java");
        Files.createDirectories(BUILD);
        Files.writeString(file, examples.get(0));
        run("javac", "-d", BUILD.toString(), "src/main/java/ServiceRows.java", file.toString());
        List<String> printed = run("java", "-cp", BUILD.toString(), "Example").lines().toList();
        List<String> due = matches("println\\([^\n]*// prints ([^\n]*)$", examples.get(0));
        need(!due.isEmpty() && printed.equals(due), "its example printed " + printed
                + ", it says " + due);
    }

    public static void main(String[] args) throws IOException, InterruptedException {
        String text = Files.readString(README);
        checkCalls(text);
        checkRefusals(text);
        checkTests(text);
        checkExample(text);
        System.out.println(wrong == 0 ? "README.md is as due" : wrong + " things are not as due");
        if (wrong != 0) {
            System.exit(1);
        }
    }
}
