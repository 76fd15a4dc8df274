import java.lang.reflect.InvocationTargetException;
import java.net.URL;
import java.net.URLClassLoader;
import java.nio.file.Files;
import java.nio.file.Path;
import java.util.function.ObjLongConsumer;
import java.util.regex.Matcher;
import java.util.regex.Pattern;
import java.util.spi.ToolProvider;
import java.util.stream.Stream;

/** The examples of README.md are compiled and carried out: each line answers what stands behind its arrow. */
public final class ReadmeTest {
    private static final Pattern BLOCK = Pattern.compile("```java\n(.*?)```", Pattern.DOTALL);
    private static final Pattern TOLD = Pattern.compile("^(\\s*)(int (\\w+) = )?(.*?);\\s+// => (-?\\d+)\\b.*$");

    public static void main(String[] args) throws Exception {
        String readme = Files.readString(Path.of("README.md"));
        Path folder = Files.createTempDirectory("readme");
        try {
            int blocks = 0;
            for (Matcher m = BLOCK.matcher(readme); m.find(); blocks++) {
                carryOut(folder, "Example" + blocks, m.group(1));
            }
            Due.is("examples are found", blocks > 0 ? 1 : 0, 1);
        } finally {
            remove(folder);
        }
        Due.end();
    }

    private static void carryOut(Path folder, String name, String example) throws Exception {
        StringBuilder code = new StringBuilder("import java.util.function.ObjLongConsumer;\n");
        code.append("public final class ").append(name).append(" {\n");
        code.append("public static void main(ObjLongConsumer<String> answer) {\n");
        for (String line : example.split("\n")) {
            code.append(withAnswer(line)).append('\n');
        }
        code.append("}\n}\n");
        Path file = folder.resolve(name + ".java");
        Files.writeString(file, code);
        Path classes = Path.of(SoulShore.class.getProtectionDomain().getCodeSource().getLocation().toURI());
        int exit = ToolProvider.findFirst("javac").orElseThrow()
            .run(System.out, System.out, "-cp", classes.toString(), "-d", folder.toString(), file.toString());
        Due.is(name + " of README.md compiles: exit code", exit, 0);
        if (exit == 0) {
            call(folder, name);
        }
    }

    /** The line, and a call that gives its answer and the due one on; other lines as they are. */
    private static String withAnswer(String line) {
        Matcher m = TOLD.matcher(line);
        if (!m.matches()) {
            return line;
        }
        String told = m.group(4).replace("\\", "\\\\").replace("\"", "\\\"") + " => " + m.group(5);
        String give = "answer.accept(\"" + told + "\", ";
        return m.group(2) == null
            ? give + m.group(4) + ");"
            : m.group(2) + m.group(4) + "; " + give + m.group(3) + ");";
    }

    private static void call(Path folder, String name) throws Exception {
        try (URLClassLoader loader = new URLClassLoader(new URL[] {folder.toUri().toURL()})) {
            ObjLongConsumer<String> answer = (told, got) -> {
                int arrow = told.lastIndexOf(" => ");
                Due.is("README.md: " + told.substring(0, arrow), got, Long.parseLong(told.substring(arrow + 4)));
            };
            loader.loadClass(name).getMethod("main", ObjLongConsumer.class).invoke(null, answer);
        } catch (InvocationTargetException e) {
            System.out.println(name + " of README.md threw " + e.getCause());
            Due.is(name + " of README.md throws", 1, 0);
        }
    }

    private static void remove(Path folder) throws Exception {
        try (Stream<Path> files = Files.walk(folder)) {
            for (Path file : files.sorted((a, b) -> b.compareTo(a)).toList()) {
                Files.delete(file);
            }
        }
    }
}
