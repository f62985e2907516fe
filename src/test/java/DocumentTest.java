import java.io.IOException;
import java.nio.file.DirectoryStream;
import java.nio.file.Files;
import java.nio.file.Path;
import java.util.ArrayList;
import java.util.Arrays;
import java.util.List;
import java.util.regex.Matcher;
import java.util.regex.Pattern;

/** The document from "Terms" to the last promise is quoted by the tests of bounds, but for what APART and unquoted leave out. args[0]: the project. */
public final class DocumentTest {
    private static final Pattern SAYS = Pattern.compile("\\bsays\\(((?:[\\s+]*\"(?:[^\"\\\\]|\\\\.)*\")+)\\s*\\);");
    private static final Pattern PIECE = Pattern.compile("\"((?:[^\"\\\\]|\\\\.)*)\"");
    /** What no test of bounds quotes: headings and heads of calls, which RulesTest holds, and the marks of parts. */
    private static final Pattern APART = Pattern.compile(
            "## Terms|## Promise \\d+: .*|`(?:int|long) \\w+\\([^`]*`:?|```(?:text)?|==== \\d\\.");

    public static void main(String[] args) throws IOException {
        String document = Files.readString(Path.of(args[0], "../shared/DOC.md"));
        int from = document.indexOf("## Terms");
        int to = document.indexOf("## Not promised");
        List<String> quotes = quotes(Path.of(args[0], "src/test/java"));
        boolean whole = from >= 0 && to > from && !quotes.isEmpty();
        List<String> left = whole ? unquoted(document.substring(from, to), quotes) : List.of("no document, or no quotes");
        for (String piece : left) {
            System.out.println("quoted by no test of bounds: " + piece);
        }
        System.out.println(quotes.size() + " quotes from the document, " + left.size() + " pieces without");
        if (!left.isEmpty()) {
            System.exit(1);
        }
    }

    private static List<String> quotes(Path tests) throws IOException {
        List<String> quotes = new ArrayList<>();
        try (DirectoryStream<Path> files = Files.newDirectoryStream(tests, "*BoundsTest.java")) {
            for (Path file : files) {
                Matcher says = SAYS.matcher(Files.readString(file));
                while (says.find()) {
                    StringBuilder quote = new StringBuilder();
                    Matcher piece = PIECE.matcher(says.group(1));
                    while (piece.find()) {
                        quote.append(piece.group(1).replace("\\\"", "\"").replace("\\\\", "\\"));
                    }
                    quotes.add(folded(quote.toString()));
                }
            }
        }
        return quotes;
    }

    private static String folded(String text) {
        return text.replaceAll("\\s+", " ");
    }

    /** A single word between two quotes ("or", "CLAUSE:") tells nothing by itself. */
    private static List<String> unquoted(String part, List<String> quotes) {
        String text = folded(APART.matcher(part).replaceAll("\n"));
        boolean[] quoted = new boolean[text.length()];
        for (String quote : quotes) {
            String bare = folded(APART.matcher(quote).replaceAll(" ")).trim();
            for (int at = text.indexOf(bare); at >= 0 && !bare.isEmpty(); at = text.indexOf(bare, at + 1)) {
                Arrays.fill(quoted, at, at + bare.length(), true);
            }
        }
        List<String> left = new ArrayList<>();
        for (int i = 0; i < text.length(); i++) {
            int end = i;
            while (end < text.length() && !quoted[end]) {
                end++;
            }
            String piece = text.substring(i, end).trim();
            if (piece.replaceAll("[^A-Za-z0-9 ]", " ").trim().contains(" ")) {
                left.add(piece);
            }
            i = Math.max(i, end);
        }
        return left;
    }
}
