import java.io.File;
import java.io.PrintWriter;
import java.io.StringWriter;
import java.nio.file.Path;
import java.util.ArrayDeque;
import java.util.ArrayList;
import java.util.Deque;
import java.util.HashMap;
import java.util.List;
import java.util.Map;
import java.util.Set;
import java.util.TreeSet;
import java.util.regex.Matcher;
import java.util.regex.Pattern;
import java.util.spi.ToolProvider;

/** Rules of LANGUAGE.md that the source hides and the bytecode shows: who calls whom, how deep, and what is made where. */
public final class BytecodeTest {
    private static final int MOST_DEEP = 8;
    private static final Set<String> LIBRARY = Set.of(
        "java/lang/Object.<init>", "java/lang/System.arraycopy", "java/lang/Math.abs", "java/lang/Math.max",
        "java/lang/Math.min", "java/lang/String.charAt", "java/lang/String.length");
    private static final Pattern CLASS = Pattern.compile("^[\\w ]*\\bclass ([\\w$]+) .*\\{|^[\\w ]*\\bclass ([\\w$]+)\\{");
    private static final Pattern HEAD = Pattern.compile("^  [\\w\\[\\]$ ]*?([\\w$]+)\\([^)]*\\);$");
    private static final Pattern CALL = Pattern.compile("// (?:Interface)?Method ([^:]+):");
    private static final Pattern MAKING = Pattern.compile("^\\s+\\d+: (new|newarray|anewarray|multianewarray)\\b");

    /** Class.method, and what it calls, in the same form. */
    private final Map<String, Set<String>> calls = new HashMap<>();
    private final List<String> makers = new ArrayList<>();

    public static void main(String[] args) throws Exception {
        BytecodeTest test = new BytecodeTest();
        test.read(listing());
        Due.is("methods are found", test.calls.size() > 100 ? 1 : 0, 1);
        for (String method : new TreeSet<>(test.calls.keySet())) {
            test.goDown(method, new ArrayDeque<>());
        }
        test.library();
        for (String maker : test.makers) {
            Due.is("makes an object or an array: " + maker, maker.endsWith(".<init>") ? 1 : 0, 1);
        }
        Due.end();
    }

    private static String listing() throws Exception {
        File folder = Path.of(SoulShore.class.getProtectionDomain().getCodeSource().getLocation().toURI()).toFile();
        List<String> arguments = new ArrayList<>(List.of("-c", "-p"));
        for (File file : folder.listFiles((in, name) -> name.matches("SoulShore(\\$.*)?\\.class"))) {
            arguments.add(file.getPath());
        }
        StringWriter out = new StringWriter();
        PrintWriter writer = new PrintWriter(out);
        ToolProvider.findFirst("javap").orElseThrow().run(writer, writer, arguments.toArray(new String[0]));
        writer.flush();
        return out.toString();
    }

    private void read(String listing) {
        String inClass = "";
        String method = "";
        for (String line : listing.split("\n")) {
            Matcher m = CLASS.matcher(line);
            if (m.find()) {
                inClass = m.group(1) != null ? m.group(1) : m.group(2);
            }
            m = HEAD.matcher(line);
            if (m.find()) {
                method = inClass + "." + (m.group(1).equals(inClass) ? "<init>" : m.group(1));
                calls.put(method, new TreeSet<>());
            }
            m = CALL.matcher(line);
            if (m.find()) {
                String callee = m.group(1).replace("\"", "");
                calls.get(method).add(callee.contains(".") ? callee : inClass + "." + callee);
            }
            if (MAKING.matcher(line).find()) {
                makers.add(method);
            }
        }
    }

    /** Follows every row of calls; one that stands in its own row is a recursion, which the class has none of. */
    private void goDown(String method, Deque<String> open) {
        if (open.contains(method)) {
            Due.is("calls itself: " + open + " " + method, 1, 0);
            return;
        }
        open.addLast(method);
        Due.is("deep: " + open, open.size() <= MOST_DEEP ? 1 : 0, 1);
        for (String callee : calls.getOrDefault(method, Set.of())) {
            goDown(callee, open);
        }
        open.removeLast();
    }

    private void library() {
        for (Map.Entry<String, Set<String>> entry : calls.entrySet()) {
            for (String callee : entry.getValue()) {
                boolean own = callee.startsWith("SoulShore");
                Due.is(entry.getKey() + " calls " + callee, own || LIBRARY.contains(callee) ? 1 : 0, 1);
            }
        }
    }
}
