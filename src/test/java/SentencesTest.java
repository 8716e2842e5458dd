import java.io.IOException;
import java.nio.file.Files;
import java.nio.file.Path;
import java.util.ArrayList;
import java.util.List;
import java.util.Map;
import java.util.TreeMap;
import java.util.regex.Matcher;
import java.util.regex.Pattern;
import java.util.stream.Stream;

/** The sentences that the tests say they are for: each stands in the document, and none of the document's lacks. */
public final class SentencesTest {
    private static final Path DOCUMENT = Path.of("../shared/DOC.md");
    private static final Path TESTS = Path.of("src/test/java");
    private static final Pattern QUOTED = Pattern.compile("Due\\.sentence\\(\\s*\"([^\"]+)\",\\s*\"([^\"]+)\"\\s*\\)");

    private record Quote(String where, String text) {
    }

    public static void main(String[] args) throws IOException {
        if (!Files.exists(DOCUMENT)) {
            System.out.println("the document is not here: the quotes are not looked up");
            return;
        }
        Map<String, String> parts = partsOfTheDocument();
        List<Quote> quotes = quotes();
        for (Quote quote : quotes) {
            String part = parts.getOrDefault(quote.where, "").replace('\n', ' ');
            Due.is(quote.where + " has \"" + quote.text + "\"", true, () -> part.contains(quote.text));
        }
        parts.forEach((where, part) -> {
            if (where.equals("Terms") || where.startsWith("Promise ")) {
                everySentenceIsQuoted(where, part, quotes);
            }
        });
        Due.is("promises", 18, () -> parts.keySet().stream().filter(where -> where.startsWith("Promise ")).count());
        Due.end();
    }

    /** The parts by their headings; of 'Promise 3: put' the heading is 'Promise 3'. */
    private static Map<String, String> partsOfTheDocument() throws IOException {
        Map<String, String> parts = new TreeMap<>();
        for (String part : Files.readString(DOCUMENT).split("(?m)^## ")) {
            String[] headingAndRest = part.split("\n", 2);
            parts.put(headingAndRest[0].replaceAll(":.*", "").trim(), headingAndRest[1]);
        }
        return parts;
    }

    private static List<Quote> quotes() throws IOException {
        List<Quote> quotes = new ArrayList<>();
        try (Stream<Path> files = Files.list(TESTS)) {
            for (Path file : files.sorted().toList()) {
                // A quote may be broken over lines.
                String source = Files.readString(file).replaceAll("\"\\s*\\+\\s*\"", "");
                Matcher matcher = QUOTED.matcher(source);
                while (matcher.find()) {
                    quotes.add(new Quote(matcher.group(1), matcher.group(2)));
                }
            }
        }
        return quotes;
    }

    private static void everySentenceIsQuoted(String where, String part, List<Quote> quotes) {
        String text = part.replaceAll("(?m)^```.*$", "").replaceAll("(?m)^`[^`]*`: ", "");
        // A full stop and a capital letter; the two dots of '0 .. 2' and 'LOW .. HIGH' are none.
        for (String sentence : text.split("\\n|(?<!\\.)\\. (?=[A-Z])")) {
            String plain = sentence.trim();
            if (!plain.isEmpty() && !plain.equals("WRITING:")) {
                boolean quoted = quotes.stream().anyMatch(q -> q.where.equals(where) && plain.contains(withoutStop(q.text)));
                Due.is(where + ": a test is for \"" + plain + "\"", true, () -> quoted);
            }
        }
    }

    /** Splitting takes a sentence's full stop away. */
    private static String withoutStop(String text) {
        return text.replaceAll("\\.$", "");
    }
}
