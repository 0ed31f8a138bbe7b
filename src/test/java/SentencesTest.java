import java.io.IOException;
import java.nio.file.DirectoryStream;
import java.nio.file.Files;
import java.nio.file.Path;
import java.util.ArrayList;
import java.util.HashMap;
import java.util.List;
import java.util.Map;
import java.util.regex.Matcher;
import java.util.regex.Pattern;

/** Each word of the document's Terms and of its promises stands in a sentence that some test names as its own. */
public final class SentencesTest {
    private static final Check c = new Check();
    private static final Pattern NAMED = Pattern.compile("c\\.sentence\\((\\d+),\\s*((?:\"[^\"]*\"[\\s+]*)+)\\);");
    private static final Pattern LITERAL = Pattern.compile("\"([^\"]*)\"");

    public static void main(String[] args) throws IOException {
        Map<Integer, List<String>> named = new HashMap<>();
        try (DirectoryStream<Path> tests = Files.newDirectoryStream(Path.of("src/test/java"), "*.java")) {
            for (Path test : tests) {
                gather(Files.readString(test), named);
            }
        }
        for (int number = 0; number <= 35; number++) {
            c.promise(number);
            String left = left(number, named.getOrDefault(number, List.of()));
            c.holds("words that no test names: " + left, !left.matches(".*[A-Za-z].*"));
        }
        c.finish();
    }

    private static void gather(String source, Map<Integer, List<String>> named) {
        Matcher calls = NAMED.matcher(source);
        while (calls.find()) {
            StringBuilder words = new StringBuilder();
            Matcher parts = LITERAL.matcher(calls.group(2));
            while (parts.find()) {
                words.append(parts.group(1));
            }
            named.computeIfAbsent(Integer.valueOf(calls.group(1)), k -> new ArrayList<>()).add(words.toString());
        }
    }

    private static String left(int number, List<String> named) {
        String text = Check.section(number)
                .replaceAll("^## Terms", "")
                .replaceAll("^## Promise \\d+: [A-Za-z ]+ `[^`]*`", "")
                .replaceAll("```(text)?", "")
                .replaceAll("Ahead of the calls [^:]*: ---- [a-z, ]+\\.", "");
        for (String words : named) {
            text = text.replace(words, " ");
        }
        return text.trim();
    }
}
