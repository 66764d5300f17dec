import java.io.IOException;
import java.lang.reflect.Method;
import java.lang.reflect.Modifier;
import java.net.URL;
import java.net.URLClassLoader;
import java.nio.file.Files;
import java.nio.file.Path;
import java.util.ArrayList;
import java.util.List;
import java.util.regex.Matcher;
import java.util.regex.Pattern;
import javax.tools.JavaCompiler;
import javax.tools.ToolProvider;

/**
 * The calls that README.md shows answer what it says of them. Its Java is
 * compiled as it stands there; each line of use tells its answer behind "//".
 */
public final class ReadmeTest {
    private static final Checker c = new Checker("ReadmeTest");
    private static final Pattern BLOCK = Pattern.compile("(?s)```java\n(.*?)```");
    private static final Pattern TOLD = Pattern.compile("(?:int (\\w+) = )?(.+);\\s+// (-?\\d+)(?:: .+)?");
    private static final String NEW_TOWN = "GlacierStreets town = new GlacierStreets();";
    private static final String NAME = "ReadmeUse";

    private final StringBuilder source = new StringBuilder();
    /** The lines of use, block by block, and what each of them is said to answer. */
    private final List<List<String>> lines = new ArrayList<>();
    private final List<List<Long>> answers = new ArrayList<>();

    public static void main(String[] args) throws Exception {
        String readme = Files.readString(Path.of("README.md"));
        ReadmeTest t = new ReadmeTest();
        t.take(readme);
        t.showsEveryCall();
        c.holds("README.md says how to run the tests", readme.contains("```sh\n.ci/run\n```"));
        t.compileAndAsk();
        c.end();
    }

    private void take(String readme) {
        source.append("public final class " + NAME + " {\n");
        Matcher block = BLOCK.matcher(readme);
        while (block.find()) {
            if (block.group(1).startsWith("static ")) {
                source.append(block.group(1));
            } else {
                takeUse(block.group(1));
            }
        }
        source.append("}\n");
    }

    private void takeUse(String block) {
        List<String> told = new ArrayList<>();
        List<Long> due = new ArrayList<>();
        source.append("public static void use" + lines.size() + "(java.util.List<Long> got) {\n");
        for (String line : block.split("\n")) {
            Matcher m = TOLD.matcher(line);
            if (m.matches()) {
                told.add(line);
                due.add(Long.parseLong(m.group(3)));
                source.append(asked(m.group(1), m.group(2)));
            } else {
                c.holds("the line '" + line + "' tells its answer", line.equals(NEW_TOWN));
                source.append(line + "\n");
            }
        }
        source.append("}\n");
        lines.add(told);
        answers.add(due);
    }

    private static String asked(String name, String call) {
        if (name == null) {
            return "got.add((long) " + call + ");\n";
        }
        return "int " + name + " = " + call + ";\ngot.add((long) " + name + ");\n";
    }

    private void showsEveryCall() {
        for (Method m : GlacierStreets.class.getDeclaredMethods()) {
            if (Modifier.isPublic(m.getModifiers())) {
                c.holds("README.md shows " + m.getName() + "()", source.indexOf("town." + m.getName() + "(") >= 0);
            }
        }
    }

    private void compileAndAsk() throws Exception {
        Path made = Files.createTempDirectory("readme");
        Path file = made.resolve(NAME + ".java");
        Path built = made.resolve(NAME + ".class");
        try {
            Files.writeString(file, source);
            if (compiles(file, made)) {
                askAll(made);
            }
        } finally {
            Files.deleteIfExists(file);
            Files.deleteIfExists(built);
            Files.deleteIfExists(made);
        }
    }

    private static boolean compiles(Path file, Path to) {
        JavaCompiler javac = ToolProvider.getSystemJavaCompiler();
        String path = System.getProperty("java.class.path");
        int failed = javac.run(null, null, null, "-d", to.toString(), "-cp", path, file.toString());
        c.due("javac of what README.md shows", failed, 0);
        return failed == 0;
    }

    private void askAll(Path made) throws IOException, ReflectiveOperationException {
        URL[] where = {made.toUri().toURL()};
        try (URLClassLoader loader = new URLClassLoader(where, GlacierStreets.class.getClassLoader())) {
            Class<?> use = loader.loadClass(NAME);
            for (int i = 0; i < lines.size(); i++) {
                List<Long> got = new ArrayList<>();
                use.getMethod("use" + i, List.class).invoke(null, got);
                compare(lines.get(i), answers.get(i), got);
            }
        }
    }

    private static void compare(List<String> told, List<Long> due, List<Long> got) {
        c.due("how many calls answered", got.size(), due.size());
        for (int k = 0; k < got.size() && k < due.size(); k++) {
            c.due("README.md, '" + told.get(k).replaceAll(" +", " ") + "'", got.get(k), due.get(k));
        }
    }
}
