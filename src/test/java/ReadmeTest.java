import java.io.IOException;
import java.lang.invoke.MethodHandles;
import java.nio.file.Files;
import java.nio.file.Path;
import java.util.ArrayList;
import java.util.List;
import java.util.Set;
import java.util.TreeSet;
import java.util.regex.Matcher;
import java.util.regex.Pattern;
import java.util.stream.Stream;
import javax.tools.ToolProvider;

/** README.md: the calls that it shows are compiled and run, and have to answer what stands behind them. */
public final class ReadmeTest {
    private static final Path README = Path.of("README.md"), TESTS = Path.of("src/test/java");
    private static final String NAME = "ReadmeCalls";
    private static final Pattern SHOWN =
        Pattern.compile("((?:engine\\.(\\w+)|read)\\(.*\\));\\s+// (-?\\d+|NONE|BAD|STATE|FULL)(?=:|$).*");

    public static void main(String[] args) throws IOException, ReflectiveOperationException {
        String page = Files.readString(README);
        List<String> blocks = blocks(page);
        Set<String> shown = new TreeSet<>();
        Class<?> calls = compiled(program(blocks, shown));
        calls.getDeclaredMethod("all").invoke(null);
        face(page, shown);
        tests(page);
        Check.end();
    }

    private static List<String> blocks(String page) {
        List<String> all = new ArrayList<>();
        Matcher m = Pattern.compile("(?s)```java\n(.*?)```").matcher(page);
        while (m.find()) all.add(m.group(1));
        return all;
    }

    /** A class of all blocks: a method is taken as it stands, calls become a method of their own that checks them. */
    private static String program(List<String> blocks, Set<String> shown) {
        StringBuilder methods = new StringBuilder();
        StringBuilder all = new StringBuilder("static void all() {\n");
        for (int b = 0; b < blocks.size(); b++) {
            if (blocks.get(b).startsWith("static ")) {
                methods.append(blocks.get(b));
                continue;
            }
            methods.append("static void block").append(b).append("() {\n");
            for (String line : blocks.get(b).split("\n")) methods.append(checked(line, shown)).append("\n");
            methods.append("}\n");
            all.append("block").append(b).append("();\n");
        }
        return "final class " + NAME + " {\n" + methods + all + "}\n}\n";
    }

    private static String checked(String line, Set<String> shown) {
        Matcher m = SHOWN.matcher(line);
        if (!m.matches()) {
            Check.due("an answer behind: " + line, line.matches("(ShapeEngine |String |for |    \\+ ).*") ? 1 : 0, 1);
            return line;
        }
        shown.add(m.group(2) == null ? "read" : m.group(2));
        String answer = m.group(3).matches("[A-Z]+") ? "ShapeEngine." + m.group(3) : m.group(3);
        return "Check.due(\"" + m.group(1).replace("\"", "'") + "\", " + m.group(1) + ", " + answer + ");";
    }

    private static Class<?> compiled(String program) throws IOException, IllegalAccessException {
        Path folder = Files.createTempDirectory("readme");
        Path file = folder.resolve(NAME + ".java");
        Path made = folder.resolve(NAME + ".class");
        Files.writeString(file, program);
        String path = System.getProperty("java.class.path");
        int code = ToolProvider.getSystemJavaCompiler().run(null, null, null, "-cp", path, "-d", folder.toString(), file.toString());
        Check.due("what javac says of the calls", code, 0);
        byte[] bytes = Files.readAllBytes(made);
        Files.delete(made);
        Files.delete(file);
        Files.delete(folder);
        return MethodHandles.lookup().defineClass(bytes);
    }

    /** Each method of the document's face has a row in the table of calls, and a call that shows it. */
    private static void face(String page, Set<String> shown) throws IOException {
        Matcher m = Pattern.compile("    public (?:int|long) (\\w+)(\\(.*\\));").matcher(Files.readString(Path.of("../shared/DOC.md")));
        int methods = 0;
        for (; m.find(); methods++) {
            Check.due("a row for " + m.group(1), page.contains("\n| `" + m.group(1) + m.group(2) + "` |") ? 1 : 0, 1);
            Check.due("a call of " + m.group(1), shown.contains(m.group(1)) ? 1 : 0, 1);
        }
        Check.due("methods of the face", methods, 17);
    }

    private static void tests(String page) throws IOException {
        Set<String> there = new TreeSet<>();
        try (Stream<Path> files = Files.list(TESTS)) {
            files.map(f -> f.getFileName().toString()).filter(f -> f.matches("\\w+(Test|Sentences)\\.java"))
                .forEach(f -> there.add(f.replace(".java", "")));
        }
        Set<String> listed = new TreeSet<>();
        Matcher row = Pattern.compile("(?m)^\\| (`\\w+(?:Test|Sentences)`.*?) \\|").matcher(page);
        while (row.find()) {
            for (String name : row.group(1).split(", ")) listed.add(name.replace("`", ""));
        }
        Check.due("tests that are listed " + listed + " of " + there, listed.equals(there) ? 1 : 0, 1);
        Check.due("how to run them", page.contains("\n.ci/run\n") && Files.isExecutable(Path.of(".ci/run")) ? 1 : 0, 1);
    }
}
