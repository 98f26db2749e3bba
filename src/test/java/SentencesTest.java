import java.io.IOException;
import java.nio.file.DirectoryStream;
import java.nio.file.Files;
import java.nio.file.Path;
import java.util.Map;
import java.util.TreeMap;
import java.util.regex.Matcher;
import java.util.regex.Pattern;

/**
 * That tests quote the document as it stands, and leave out no sentence of it: what is given to Due.by in all tests is
 * sought in shared/DOC.md, and struck out there; but for headings and signs nothing may be left.
 */
public final class SentencesTest {
    private static final Pattern QUOTE =
            Pattern.compile("Due\\.by\\(\\s*(\"[^\"]*\"(?:\\s*\\+\\s*\"[^\"]*\")*)\\s*\\)");
    private static final Pattern JOINT = Pattern.compile("\"\\s*\\+\\s*\"");

    public static void main(String[] args) throws IOException {
        Path root = Path.of(System.getProperty("rescue.root", "."));
        String document = words(Files.readString(root.resolve("../shared/DOC.md")));
        Map<String, Integer> quotes = new TreeMap<>();
        try (DirectoryStream<Path> tests = Files.newDirectoryStream(root.resolve("src/test/java"), "*Test.java")) {
            for (Path test : tests) {
                addQuotes(Files.readString(test), quotes);
            }
        }
        Due.holds("that there are quotes", quotes.size() > 50);
        StringBuilder left = new StringBuilder(document);
        for (Map.Entry<String, Integer> quote : quotes.entrySet()) {
            Due.same("tests of: " + quote.getKey(), quote.getValue(), 1);
            strikeOut(quote.getKey(), document, left);
        }
        for (String rest : left.toString().split("#+")) {
            Due.same("left without a test: " + rest.trim(), rest.isBlank() ? 0 : 1, 0);
        }
        Due.end();
    }

    /** The sentences alone: without what the face's test is for, headings, what is not promised, and signs. */
    private static String words(String document) {
        String text = document;
        text = text.replaceAll("(?s)## Not promised.*", "");
        text = text.replaceAll("(?s)```java.*?```", "");
        text = text.replaceAll("(?m)^#.*$", "");
        text = text.replaceAll("(?m)^`[^`]*`:", "");
        text = text.replaceAll("```(text)?", "");
        text = text.replaceAll("==== \\d+\\.", "");
        return text.replaceAll("\\s+", " ");
    }

    private static void addQuotes(String test, Map<String, Integer> quotes) {
        Matcher matcher = QUOTE.matcher(test);
        while (matcher.find()) {
            String quote = JOINT.matcher(matcher.group(1)).replaceAll("");
            if (quote.length() > 2) {
                quotes.merge(quote.substring(1, quote.length() - 1), 1, Integer::sum);
            }
        }
    }

    private static void strikeOut(String quote, String document, StringBuilder left) {
        int at = document.indexOf(quote);
        Due.holds("that the document says: " + quote, at >= 0);
        while (at >= 0) {
            for (int i = at; i < at + quote.length(); i++) {
                left.setCharAt(i, '#');
            }
            at = document.indexOf(quote, at + 1);
        }
    }
}
