import java.nio.file.Files;
import java.nio.file.Path;
import java.util.ArrayList;
import java.util.List;
import java.util.Set;
import java.util.regex.Matcher;
import java.util.regex.Pattern;

/** Rules of LANGUAGE.md that can be seen in the source: what words and names stand in it, how long its methods are. */
public final class LanguageTest {
    private static final Path SOURCE = Path.of("src/main/java/SoulShore.java");
    private static final Set<String> NEVER = Set.of(
        "throw", "throws", "try", "catch", "finally", "synchronized", "assert", "import", "package", "protected",
        "native", "volatile", "transient", "var", "yield", "instanceof", "Object", "Exception", "Thread", "System.out",
        "Random", "hashCode", "equals", "toString", "getClass", "currentTimeMillis", "nanoTime");
    /** Whatever else of the library stands in the source would be none of these. */
    private static final Set<String> LIBRARY = Set.of("Math", "System", "String");
    private static final Set<String> LIBRARY_CALLS = Set.of("Math.max", "Math.min", "Math.abs", "System.arraycopy");

    public static void main(String[] args) throws Exception {
        String source = Files.readString(SOURCE);
        for (int n = 0; n < source.length(); n++) {
            char c = source.charAt(n);
            if (c != '\n' && (c < 32 || c > 126)) {
                Due.is("sign at " + n, c, 32);
            }
        }
        String code = source.replaceAll("(?s)/\\*.*?\\*/", " ").replaceAll("//[^\n]*", " ");
        words(code);
        Due.is("lambdas and method references", code.contains("->") || code.contains("::") ? 1 : 0, 0);
        methods(code);
        makings(code);
        Due.end();
    }

    private static void words(String code) {
        String bare = code.replaceAll("\"[^\"]*\"|'.'", " ");
        Set<String> own = Set.of("SoulShore", "Moment", "Table", "Beach", "Reader", "WalkSearch", "OrderSearch");
        int classes = 0;
        Matcher m = Pattern.compile("[A-Za-z_][A-Za-z_0-9]*").matcher(bare);
        while (m.find()) {
            String word = m.group();
            if (NEVER.contains(word)) {
                Due.is("a word that never stands: " + word, m.start(), -1);
            }
            if (word.equals("class")) {
                classes++;
            }
            boolean typeName = word.matches("[A-Z][a-z][A-Za-z]*");
            if (typeName && !own.contains(word) && !LIBRARY.contains(word)) {
                Due.is("a name that is none of the library: " + word, m.start(), -1);
            }
        }
        Due.is("classes", classes, own.size());
        m = Pattern.compile("\\b(Math|System|String)\\.(\\w+)").matcher(bare);
        while (m.find()) {
            Due.is("of the library: " + m.group(), LIBRARY_CALLS.contains(m.group()) ? 1 : 0, 1);
        }
    }

    /** Methods have sixty lines at most, and seven parameters. */
    private static void methods(String code) {
        String[] lines = code.split("\n", -1);
        Pattern head = Pattern.compile("^(    |        )(public |private |static )*[\\w\\[\\]]+( \\w+)?\\((.*)\\) \\{$");
        int found = 0;
        for (int n = 0; n < lines.length; n++) {
            Matcher m = head.matcher(lines[n]);
            if (m.matches()) {
                found++;
                int end = n;
                while (!lines[end].equals(m.group(1) + "}")) {
                    end++;
                }
                Due.is("lines of " + lines[n].trim(), end - n + 1 <= 60 ? 1 : 0, 1);
                Due.is("parameters of " + lines[n].trim(), m.group(4).split(",").length <= 7 ? 1 : 0, 1);
            }
        }
        Due.is("methods are found", found > 100 ? 1 : 0, 1);
    }

    /** Everything is made by constructors and fields: no call of a run makes an object. */
    private static void makings(String code) {
        List<String> outside = new ArrayList<>();
        String method = "";
        for (String line : code.split("\n")) {
            if (line.matches("^(    |        )\\S.*\\{$")) {
                method = line.trim();
            }
            boolean field = line.matches("^        final .*= new .*;$");
            boolean constructor = method.matches("(public )?(SoulShore|Table|Beach)\\(.*|for .*");
            if (line.contains("new ") && !field && !constructor) {
                outside.add(method + " / " + line.trim());
            }
        }
        Due.is("made by calls: " + outside, outside.size(), 0);
    }
}
