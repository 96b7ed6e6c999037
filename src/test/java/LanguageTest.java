import java.io.IOException;
import java.nio.file.Files;
import java.nio.file.Path;
import java.util.ArrayList;
import java.util.LinkedHashMap;
import java.util.List;
import java.util.Map;
import java.util.regex.Matcher;
import java.util.regex.Pattern;

/**
 * What LANGUAGE.md says of the source, where the compiled class doesn't show it. It reads
 * the source by its layout: a member begins four columns in, and its brace ends there.
 */
public final class LanguageTest {
    private static final Check check = new Check();

    // Rules 1 to 3, 6 and 11: what no line holds, beside the one class and its number types.
    private static final Pattern FORBIDDEN = Pattern.compile(
            "\\b(package|import|protected|interface|enum|record|extends|implements|abstract|native"
            + "|float|double|var|null|throws?|try|catch|finally|synchronized|assert|instanceof|yield"
            + "|super|volatile|transient)\\b|->|::|\"|@|\\[\\]\\s*\\[|\\[\\]\\s+\\w+\\s*\\(");
    private static final Pattern OTHER_CLASS = Pattern.compile("\\b(?!HtnPlanner\\b)[A-Z]\\w*[a-z]\\w*");
    private static final Pattern ARRAY_FIELD = Pattern.compile(
            "    private final (int|long|short|byte|char|boolean)\\[\\] \\w+ = new \\1\\[([A-Z_]+|[1-9]\\d*)\\];");
    private static final Pattern HEAD = Pattern.compile("    (?:public|private) (?:[a-z]+ )*(\\w+)\\((.*)\\) \\{");
    private static final Pattern CALL = Pattern.compile("\\b([a-z]\\w*)\\(");

    public static void main(String[] args) throws IOException {
        List<String> lines = new ArrayList<>();
        for (String line : Files.readAllLines(Path.of("src/main/java/HtnPlanner.java"))) {
            lines.add(line.replaceFirst("\\s*//.*", ""));
        }
        words(lines);
        Map<String, List<String>> methods = methods(lines);
        check.due("the constructor and the 15 public methods are read", methods.size() >= 16, true);
        methods.forEach(LanguageTest::loopsAndLength);
        calls(methods);
        check.end();
    }

    private static void none(String what, Pattern pattern, String line) {
        check.due(what + " in: " + line, pattern.matcher(line).find(), false);
    }

    private static void words(List<String> lines) {
        for (String line : lines) {
            none("a forbidden word", FORBIDDEN, line);
            none("another class", OTHER_CLASS, line);
            if (line.matches(".*\\bnew\\b.*")) {
                check.due("an array field of fixed length: " + line, ARRAY_FIELD.matcher(line).matches(), true);
            }
            check.due("a static initialiser: " + line, line.matches("\\s*static\\s*\\{?\\s*"), false);
        }
    }

    /** The lines of each method and of the constructor, its head among them. */
    private static Map<String, List<String>> methods(List<String> lines) {
        Map<String, List<String>> methods = new LinkedHashMap<>();
        List<String> current = null;
        for (String line : lines) {
            Matcher head = HEAD.matcher(line);
            if (head.matches()) {
                current = new ArrayList<>();
                check.due("a second method " + head.group(1), methods.put(head.group(1), current) != null, false);
                check.due("at most seven parameters: " + line, head.group(2).split(",").length <= 7, true);
            }
            if (current != null) {
                current.add(line);
            }
            if (line.equals("    }")) {
                current = null;
            }
        }
        return methods;
    }

    private static void loopsAndLength(String name, List<String> lines) {
        check.due(name + " has at most sixty lines", lines.size() <= 60, true);
        for (String line : lines) {
            if (line.matches("\\s*(for|while|do)\\b.*")) {
                check.due("a loop with a counter and its bound: " + line,
                        line.matches("\\s*for \\(int (\\w+) = [^;]+; \\1 (<|>=) [^;]+; \\1(\\+\\+|--)\\) \\{"), true);
            }
        }
    }

    private static void calls(Map<String, List<String>> methods) {
        Map<String, List<String>> called = new LinkedHashMap<>();
        methods.forEach((name, lines) -> {
            List<String> names = new ArrayList<>();
            for (String line : lines.subList(1, lines.size())) {
                Matcher call = CALL.matcher(line);
                while (call.find()) {
                    check.due(name + " calls only the class's own methods: " + line,
                            methods.containsKey(call.group(1)), true);
                    names.add(call.group(1));
                    none("a call in another's arguments", CALL, arguments(line, call.end()));
                }
            }
            called.put(name, names);
        });
        for (String name : called.keySet()) {
            check.due("calls from " + name + " go at most six deep", deeperThan(6, name, called), false);
        }
    }

    private static String arguments(String line, int start) {
        int open = 1;
        int end = start;
        while (end < line.length() && open > 0) {
            open += line.charAt(end) == '(' ? 1 : line.charAt(end) == ')' ? -1 : 0;
            end++;
        }
        return line.substring(start, end);
    }

    /** A method that calls itself, over whatever others, is deeper than any bound. */
    private static boolean deeperThan(int bound, String name, Map<String, List<String>> called) {
        if (bound == 0) {
            return true;
        }
        return called.getOrDefault(name, List.of()).stream()
                .anyMatch(other -> deeperThan(bound - 1, other, called));
    }
}
