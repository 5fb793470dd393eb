import java.io.File;
import java.lang.reflect.Method;
import java.lang.reflect.Modifier;
import java.net.URL;
import java.net.URLClassLoader;
import java.nio.file.Files;
import java.nio.file.Path;
import java.util.ArrayList;
import java.util.List;
import java.util.Set;
import java.util.TreeSet;
import java.util.regex.Matcher;
import java.util.regex.Pattern;
import java.util.stream.Stream;
import javax.tools.ToolProvider;

/**
 * Runs the examples of README.md as they stand there: each block is a method of its own (or a helper, if it begins with
 * "static"), and each call that answers must answer, or throw, what the comment behind it tells.
 */
public final class ReadmeTest {
    /** A call of an example. */
    public interface Call {
        Object ask();
    }

    private static final String NOTHING = "nothing";
    private static final Pattern LINE = Pattern.compile("(x\\.(\\w+)\\(.*\\));\\s*//\\s*(.*)");
    private static final Pattern ANSWER = Pattern.compile("(-?\\d+|true|false|throws \\w+)(:.*|)");

    private static final Checks c = new Checks();
    private static final Set<String> called = new TreeSet<>();

    public static void main(String[] args) throws Exception {
        List<List<String>> blocks = blocks(Files.readAllLines(Path.of("README.md")));
        c.due("blocks", blocks.size() > 1, true);
        int examples = 0;
        for (List<String> block : blocks) {
            examples += isHelper(block) ? 0 : 1;
        }
        run(source(blocks), examples);
        everyCallIsShown();
        toldFromWrong();
        c.end();
    }

    /** What an example's call must answer. */
    public static void due(String call, String want, Call asked) {
        String got;
        try {
            got = String.valueOf(asked.ask());
        } catch (RuntimeException e) {
            got = "throws " + e.getClass().getSimpleName();
        }
        c.due("README.md: " + call + " answered " + got + ", told is " + want, got.equals(want), true);
    }

    private static List<List<String>> blocks(List<String> lines) {
        List<List<String>> blocks = new ArrayList<>();
        List<String> block = null;
        for (String line : lines) {
            if (line.equals("```java")) {
                block = new ArrayList<>();
                blocks.add(block);
            } else if (line.startsWith("```")) {
                block = null;
            } else if (block != null) {
                block.add(line);
            }
        }
        return blocks;
    }

    private static boolean isHelper(List<String> block) {
        return block.get(0).startsWith("static ");
    }

    private static String source(List<List<String>> blocks) {
        StringBuilder source = new StringBuilder("public final class ReadmeExamples {\n");
        for (int k = 0; k < blocks.size(); k++) {
            boolean helper = isHelper(blocks.get(k));
            source.append(helper ? "" : "public static void block" + k + "() {\n");
            for (String line : blocks.get(k)) {
                source.append(helper ? line : checked(line)).append('\n');
            }
            source.append(helper ? "" : "}\n");
        }
        return source.append("}\n").toString();
    }

    /** The line as it is, or, if it is a call, set beside its answer. */
    private static String checked(String line) {
        Matcher call = LINE.matcher(line);
        if (!call.matches()) {
            c.due("README.md: no answer behind " + line, line.startsWith("x."), false);
            return line;
        }
        called.add(call.group(2));
        Matcher answer = ANSWER.matcher(call.group(3));
        boolean told = answer.matches();
        boolean silent = isVoid(call.group(2));
        c.due("README.md: no answer told behind " + line, told || silent, true);
        String want = told ? answer.group(1) : NOTHING;
        String body = silent ? "{ " + call.group(1) + "; return \"" + NOTHING + "\"; }" : call.group(1);
        String quoted = call.group(1).replace("\\", "\\\\").replace("\"", "\\\"");
        return "ReadmeTest.due(\"" + quoted + "\", \"" + want + "\", () -> " + body + ");";
    }

    private static boolean isVoid(String name) {
        for (Method m : PumpCrossing.class.getDeclaredMethods()) {
            if (m.getName().equals(name)) {
                return m.getReturnType() == void.class;
            }
        }
        return false;
    }

    private static void run(String source, int many) throws Exception {
        Path folder = Files.createTempDirectory("readme");
        try {
            Path file = folder.resolve("ReadmeExamples.java");
            Files.writeString(file, source);
            String path = System.getProperty("java.class.path");
            int compiled = ToolProvider.getSystemJavaCompiler().run(null, null, null,
                    "-cp", path, "-d", folder.toString(), file.toString());
            c.due("README.md: compiled", compiled, 0);
            if (compiled == 0) {
                callBlocks(folder, many);
            }
        } finally {
            delete(folder);
        }
    }

    private static void callBlocks(Path folder, int many) throws Exception {
        int ran = 0;
        try (URLClassLoader loader = new URLClassLoader(new URL[] {folder.toUri().toURL()})) {
            for (Method m : loader.loadClass("ReadmeExamples").getDeclaredMethods()) {
                if (m.getName().startsWith("block")) {
                    m.invoke(null);
                    ran++;
                }
            }
        }
        c.due("README.md: examples that ran", ran, many);
    }

    private static void delete(Path folder) throws Exception {
        try (Stream<Path> files = Files.list(folder)) {
            files.map(Path::toFile).forEach(File::delete);
        }
        Files.delete(folder);
    }

    private static void everyCallIsShown() {
        for (Method m : PumpCrossing.class.getDeclaredMethods()) {
            if (Modifier.isPublic(m.getModifiers())) {
                c.due("README.md shows " + m.getName(), called.contains(m.getName()), true);
            }
        }
    }

    /** That a wrong answer would be seen at all. */
    private static void toldFromWrong() {
        Matcher answer = ANSWER.matcher("-13: the fault");
        c.due("an answer's form", answer.matches() && answer.group(1).equals("-13"), true);
        c.due("a remark is no answer", ANSWER.matcher("21 numbers of 8 bits").matches(), false);
        c.due("a call's form", LINE.matcher("x.rules(0, tape(x, \"up 1;\"));   // 1: one").matches(), true);
    }
}
