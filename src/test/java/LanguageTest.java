import java.io.IOException;
import java.nio.file.Files;
import java.nio.file.Path;
import java.util.List;
import java.util.TreeSet;
import java.util.regex.Matcher;
import java.util.regex.Pattern;

/** What of the rules of ../shared/LANGUAGE.md the source shows; FaceTest has what the compiled classes show. */
public final class LanguageTest {
    private static final Path SOURCE = Path.of("src/main/java/SpanPainter.java");
    private static final int LONGEST_METHOD = 60;

    public static void main(String[] arguments) throws Exception {
        Due.runAll(LanguageTest.class);
    }

    /** The source without comments, the texts in it emptied. */
    private static String code() throws IOException {
        String source = Files.readString(SOURCE);
        return source.replaceAll("(?s)/\\*.*?\\*/", "").replaceAll("//[^\n]*", "").replaceAll("\"[^\"\n]*\"", "\"\"");
    }

    private static TreeSet<String> found(String pattern, String where) {
        TreeSet<String> found = new TreeSet<>();
        Matcher matcher = Pattern.compile(pattern).matcher(where);
        while (matcher.find()) {
            found.add(matcher.group(matcher.groupCount()));
        }
        return found;
    }

    /** "No library but what it lists": the import, and what is asked of a class of the library. */
    static void sectionLanguageLibrary() throws IOException {
        Due.text("package and imports", found("(?m)^(?:package|import) .*", code()).toString(), "[import java.util.Arrays;]");
        Due.text("static calls", found("\\b([A-Z]\\w*\\.\\w+)\\(", code()).toString(),
                "[Arrays.fill, Integer.bitCount, Math.max, Math.min, System.arraycopy]");
    }

    /** Rules 2, 6 and 10: no lambda, method reference, catch, synchronized, assert; no texts joined by a sign. */
    static void sectionLanguageWords() throws IOException {
        Due.text("words", found("\\b(try|catch|finally|synchronized|assert|native|volatile|transient|strictfp|var|goto|extends|super)\\b",
                code()).toString(), "[]");
        Due.text("signs", found("(->|::|@|\"\\s*\\+|\\+\\s*\"|static\\s*\\{)", code()).toString(), "[]");
        Due.text("signs of a text that are not 1 to 127", found("([^\\x01-\\x7f])", Files.readString(SOURCE)).toString(), "[]");
    }

    /** Rule 6: each throw is that of a new exception with a written text. */
    static void sectionLanguageThrows() throws IOException {
        String rest = code().replaceAll("throw new (IllegalArgumentException|IndexOutOfBoundsException)\\(\"\"\\);", "");
        Due.text("other throws", found("\\b(throw\\b.*)", rest).toString(), "[]");
    }

    /** Rules 2 and 3: what is made is an array of numbers or an object of a class inside. */
    static void sectionLanguageObjects() throws IOException {
        String code = code().replaceAll("throw new \\w+", "");
        TreeSet<String> made = found("\\bnew (\\w+)", code);
        made.removeAll(found("\\bprivate static final class (\\w+) ", code));
        Due.text("made beside objects of classes inside", made.toString(), "[byte, int, long]");
    }

    /** Rule 11: "some sixty lines". */
    static void sectionLanguageShortMethods() throws IOException {
        List<String> lines = Files.readAllLines(SOURCE);
        int methods = 0;
        for (int first = 0; first < lines.size(); first++) {
            String line = lines.get(first);
            if (line.matches("( {4}| {8})[a-zA-Z].*\\) (throws .*)?\\{") && !line.matches(" *(if|for|while|switch|else).*")) {
                String end = line.replaceAll("[^ ].*", "") + "}";
                int last = first;
                while (last < lines.size() && !lines.get(last).equals(end)) {
                    last++;
                }
                methods++;
                Due.is("at most " + LONGEST_METHOD + " lines: " + line.trim(), last - first < LONGEST_METHOD ? 1 : 0, 1);
            }
        }
        Due.is("there are methods: " + methods, methods > 65 ? 1 : 0, 1);
    }
}
