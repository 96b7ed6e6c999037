import java.io.ByteArrayOutputStream;
import java.io.IOException;
import java.io.PrintStream;
import java.lang.reflect.Member;
import java.net.URL;
import java.net.URLClassLoader;
import java.nio.charset.StandardCharsets;
import java.nio.file.Files;
import java.nio.file.Path;
import java.util.ArrayList;
import java.util.List;
import javax.tools.ToolProvider;

/** README.md: its example prints what it says, and it names every public member. */
public final class ReadmeTest {
    private static final Check check = new Check();

    public static void main(String[] args) throws IOException, ReflectiveOperationException {
        String readme = Files.readString(Path.of("README.md"));
        check.same("what the example prints", printedBy(block(readme, "java")), block(readme, "text"));
        for (Member member : publicMembers()) {
            check.due("README.md names " + member.getName(),
                    readme.matches("(?s).*`" + member.getName() + "\\b.*"), true);
        }
        check.due("README.md tells how to run the tests", readme.contains("\n    .ci/run\n"), true);
        check.end();
    }

    private static String block(String text, String kind) {
        String opening = "\n```" + kind + "\n";
        int start = text.indexOf(opening) + opening.length();
        return text.substring(start, text.indexOf("```\n", start));
    }

    private static String printedBy(String example) throws IOException, ReflectiveOperationException {
        Path directory = Files.createTempDirectory("readme");
        Path source = directory.resolve("Example.java");
        try {
            Files.writeString(source, example);
            check.due("compiling the example", ToolProvider.getSystemJavaCompiler().run(null, null, null,
                    "-cp", System.getProperty("java.class.path"), "-d", directory.toString(),
                    source.toString()), 0L);
            return printedByClass(directory);
        } finally {
            Files.deleteIfExists(source);
            Files.deleteIfExists(directory.resolve("Example.class"));
            Files.delete(directory);
        }
    }

    private static String printedByClass(Path directory) throws IOException, ReflectiveOperationException {
        PrintStream usual = System.out;
        ByteArrayOutputStream printed = new ByteArrayOutputStream();
        try (URLClassLoader loader = new URLClassLoader(new URL[] {directory.toUri().toURL()})) {
            System.setOut(new PrintStream(printed, true, StandardCharsets.UTF_8));
            loader.loadClass("Example").getMethod("main", String[].class)
                    .invoke(null, (Object) new String[0]);
        } finally {
            System.setOut(usual);
        }
        return printed.toString(StandardCharsets.UTF_8).replace(System.lineSeparator(), "\n");
    }

    private static List<Member> publicMembers() {
        List<Member> members = new ArrayList<>(List.of(HtnPlanner.class.getFields()));
        for (Member method : HtnPlanner.class.getMethods()) {
            if (method.getDeclaringClass() == HtnPlanner.class) {
                members.add(method);
            }
        }
        return members;
    }
}
