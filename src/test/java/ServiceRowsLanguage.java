import java.io.IOException;
import java.lang.reflect.Modifier;
import java.nio.file.Files;
import java.nio.file.Path;
import java.util.ArrayDeque;
import java.util.ArrayList;
import java.util.Deque;
import java.util.List;
import java.util.Map;
import java.util.Set;
import java.util.TreeMap;
import java.util.TreeSet;
import java.util.regex.Matcher;
import java.util.regex.Pattern;

/**
 * The class's text keeps to the rules of LANGUAGE.md that can be seen in it. Where the class needs
 * less than a rule leaves, this asks for the less: no list, no text, no try, no loop but for.
 */
public final class ServiceRowsLanguage {
    private static final Path SOURCE = Path.of("src", "main", "java", "ServiceRows.java");
    private static final Pattern PIECE = Pattern.compile(
            "/\\*.*?\\*/|//[^\n]*|\"[^\"\n]*\"|\\w+|->|::|\\S", Pattern.DOTALL);

    private static final int MOST_CLASSES = 12;
    private static final int MOST_FIELDS = 20;
    private static final int MOST_PARAMETERS = 7;
    private static final int MOST_LINES = 60;
    private static final int MOST_DEPTH = 8;

    private static final Set<String> FORBIDDEN = Set.of("package", "import", "->", "::", "try",
            "catch", "finally", "synchronized", "assert", "instanceof", "while", "do", "native",
            "volatile", "transient", "protected", "interface", "extends", "implements", "null",
            "double", "float", "String", "StringBuilder", "ArrayList", "List", "Thread", "Random",
            "Runtime", "Object", "@");
    private static final Set<String> EXCEPTIONS = Set.of("IllegalStateException",
            "IllegalArgumentException", "IndexOutOfBoundsException", "ArithmeticException",
            "UnsupportedOperationException");
    private static final Set<String> LIBRARY = Set.of("Math.abs", "Math.max", "Math.min",
            "System.arraycopy");
    private static final Set<String> NO_CALLS = Set.of("if", "for", "switch", "return", "throw");

    private record Token(String text, int line) { }

    /** A method or a constructor. */
    private record Body(String name, boolean isConstructor, int firstLine) { }

    private static final List<Token> TOKENS = new ArrayList<>();
    /** By each method's name the names that it calls; methods of one name are taken for one. */
    private static final Map<String, Set<String>> CALLS = new TreeMap<>();
    private static int wrong = 0;

    private static void need(boolean holds, int rule, String what) {
        if (!holds) {
            wrong++;
            System.out.println("rule " + rule + ": " + what);
        }
    }

    private static void readTokens() throws IOException {
        String text = Files.readString(SOURCE);
        Matcher piece = PIECE.matcher(text);
        int line = 1;
        int seen = 0;
        while (piece.find()) {
            line += (int) text.substring(seen, piece.start()).chars().filter(c -> c == '\n').count();
            seen = piece.start();
            if (!piece.group().startsWith("/*") && !piece.group().startsWith("//")) {
                TOKENS.add(new Token(piece.group(), line));
            }
        }
    }

    private static String at(int i) {
        return i >= 0 && i < TOKENS.size() ? TOKENS.get(i).text : "";
    }

    private static String where(int i) {
        return "line " + TOKENS.get(i).line + ": " + at(i);
    }

    /** What stands before the token since the last statement or brace ended. */
    private static List<String> before(int i) {
        int start = i;
        while (start > 0 && !Set.of(";", "{", "}").contains(at(start - 1))) {
            start--;
        }
        return TOKENS.subList(start, i).stream().map(Token::text).toList();
    }

    private static int next(String text, int from) {
        int i = from;
        while (i < TOKENS.size() && !at(i).equals(text)) {
            i++;
        }
        return i;
    }

    /** Walks through the classes and the methods: what is made, thrown and called, and where. */
    private static void walk() {
        Deque<String> open = new ArrayDeque<>();
        Body body = null;
        int classes = 0;
        for (int i = 0; i < TOKENS.size(); i++) {
            if (at(i).equals("{")) {
                List<String> head = before(i);
                if (head.contains("class")) {
                    classes++;
                    open.push("class " + head.get(head.indexOf("class") + 1));
                } else if (body == null && open.peek() != null && head.contains("(")) {
                    body = bodyOf(head, TOKENS.get(i).line, open.peek());
                    open.push("method");
                } else {
                    open.push("block");
                }
            } else if (at(i).equals("}") && open.pop().equals("method")) {
                int lines = TOKENS.get(i).line - body.firstLine + 1;
                need(lines <= MOST_LINES, 11, body.name + " has " + lines + " lines");
                body = null;
            } else {
                checkToken(i, body);
            }
        }
        need(classes <= MOST_CLASSES, 11, classes + " classes");
    }

    private static Body bodyOf(List<String> head, int line, String ofClass) {
        String name = head.get(head.indexOf("(") - 1);
        List<String> parameters = head.subList(head.indexOf("("), head.indexOf(")"));
        long commas = parameters.stream().filter(","::equals).count();
        need(commas < MOST_PARAMETERS, 11, name + " has too many parameters");
        CALLS.putIfAbsent(name, new TreeSet<>());
        return new Body(name, ofClass.equals("class " + name), line);
    }

    private static void checkToken(int i, Body body) {
        String text = at(i);
        need(!FORBIDDEN.contains(text), 4, where(i));
        if (text.equals("throw")) {
            boolean written = at(i + 4).equals(")") || at(i + 4).startsWith("\"");
            need(at(i + 1).equals("new") && EXCEPTIONS.contains(at(i + 2)) && written
                    && at(i + (at(i + 4).equals(")") ? 5 : 6)).equals(";"), 6, where(i));
            need(body != null && !body.isConstructor, 6, where(i) + " in a constructor");
        }
        if (text.equals("new") && !at(i - 1).equals("throw")) {
            need(body == null || body.isConstructor, 12, where(i) + " " + at(i + 1));
        }
        if (text.equals("static")) {
            boolean isField = !at(i + 2).equals("class") && !at(i + 3).equals("(");
            need(at(i + 1).equals("final") || !isField, 5, where(i));
        }
        if (text.equals("for")) {
            int first = next(";", i);
            int second = next(";", first + 1);
            need(second - first > 3 && !at(second + 1).equals(")"), 9, where(i));
        }
        if (text.startsWith("\"")) {
            need(!at(i - 1).equals("+") && !at(i + 1).equals("+"), 10, where(i));
        }
        if (at(i + 1).equals("(") && body != null) {
            checkCall(i, body);
        }
    }

    private static void checkCall(int i, Body body) {
        if (!at(i).matches("[a-z]\\w*") || NO_CALLS.contains(at(i))) {
            return;
        }
        String owner = at(i - 1).equals(".") ? at(i - 2) : "";
        if (owner.matches("[A-Z]\\w*")) {
            need(LIBRARY.contains(owner + "." + at(i)), 4, where(i));
            return;
        }
        CALLS.get(body.name).add(at(i));
    }

    /** How many calls stand open at once. */
    private static int depthOf(String name, Deque<String> open) {
        if (!CALLS.containsKey(name)) {
            need(false, 4, name + " is no method of the class");
            return 0;
        }
        if (open.contains(name)) {
            need(false, 8, name + " calls itself by way of " + open);
            return 0;
        }
        open.push(name);
        int deepest = 0;
        for (String called : CALLS.get(name)) {
            deepest = Math.max(deepest, depthOf(called, open));
        }
        open.pop();
        return deepest + 1;
    }

    private static void checkFields() {
        List<Class<?>> all = new ArrayList<>(List.of(ServiceRows.class.getDeclaredClasses()));
        all.add(ServiceRows.class);
        for (Class<?> type : all) {
            long fields = List.of(type.getDeclaredFields()).stream()
                    .filter(f -> !Modifier.isStatic(f.getModifiers())).count();
            need(fields <= MOST_FIELDS, 11, type + " has " + fields + " fields");
        }
    }

    public static void main(String[] args) throws IOException {
        readTokens();
        walk();
        checkFields();
        int deepest = 0;
        for (String name : CALLS.keySet()) {
            deepest = Math.max(deepest, depthOf(name, new ArrayDeque<>()));
        }
        need(deepest <= MOST_DEPTH, 11, "calls go " + deepest + " deep");
        need(CALLS.size() > 22 && deepest > 1, 1, "the test found no methods");
        System.out.println(TOKENS.size() + " tokens, " + CALLS.size() + " names of methods, calls "
                + deepest + " deep, " + wrong + " things wrong");
        if (wrong != 0) {
            System.exit(1);
        }
    }
}
