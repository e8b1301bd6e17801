import java.io.IOException;
import java.nio.file.Files;
import java.nio.file.Path;
import java.util.ArrayList;
import java.util.Arrays;
import java.util.BitSet;
import java.util.List;
import java.util.TreeMap;
import java.util.regex.Matcher;
import java.util.regex.Pattern;

/**
 * The runs under edges say by their quotes (lines that begin with >) which words of the document they
 * test: each quote stands in its part of the document and has a run behind it, and no word of 'Terms'
 * and of the promises is without a run.
 */
public final class QuotesTest {
    private static final Pattern PART = Pattern.compile("## (?:(Terms)|Promise (\\d+): .*)");
    private static final Pattern FACE_OF_PROMISE = Pattern.compile("^`[^`]*`: ");

    private final TreeMap<Integer, String> parts = new TreeMap<>();
    private final TreeMap<Integer, BitSet> quoted = new TreeMap<>();
    private final List<String> faults = new ArrayList<>();
    private int quotes;

    public static void main(String[] args) throws IOException {
        Path document = Path.of(args.length > 1 ? args[1] : "../shared").resolve("DOC.md");
        if (!Files.exists(document)) {
            System.out.println("no document at " + document + ": its words are not compared");
            return;
        }
        QuotesTest test = new QuotesTest();
        test.readDocument(Files.readAllLines(document));
        for (Path file : RunsTest.filesOf(Path.of(args.length > 0 ? args[0] : "src/test", "edges"))) {
            test.readQuotes(file);
        }
        test.lookForWordsWithoutRun();
        test.faults.forEach(System.out::println);
        System.out.println(test.quotes + " quotes, " + test.faults.size() + " faults");
        if (!test.faults.isEmpty()) {
            System.exit(1);
        }
    }

    private void readDocument(List<String> lines) {
        int part = -1;
        for (String line : lines) {
            if (line.startsWith("## ")) {
                Matcher head = PART.matcher(line);
                part = !head.matches() ? -1 : head.group(1) != null ? 0 : Integer.parseInt(head.group(2));
            } else if (part >= 0 && !line.startsWith("```")) {
                parts.merge(part, line, (a, b) -> oneLine(a + " " + b));
            }
        }
        parts.replaceAll((number, text) -> FACE_OF_PROMISE.matcher(oneLine(text)).replaceFirst(""));
        parts.keySet().forEach(number -> quoted.put(number, new BitSet()));
    }

    private static String oneLine(String text) {
        return text.replaceAll("\\s+", " ").strip();
    }

    private void readQuotes(Path file) throws IOException {
        int part = Integer.parseInt(file.getFileName().toString().substring(0, 2));
        boolean waitsForRun = false;
        for (String line : Files.readAllLines(file)) {
            if (line.startsWith("> ")) {
                mark(part, oneLine(line.substring(2)));
                waitsForRun = true;
            } else if (line.startsWith("NumberOffice(")) {
                waitsForRun = false;
            } else if (waitsForRun && !line.startsWith("#")) {
                faults.add(file.getFileName() + ": no run behind a quote, but: " + line);
            }
        }
    }

    private void mark(int part, String quote) {
        quotes++;
        String text = parts.getOrDefault(part, "");
        int from = text.indexOf(quote);
        if (from < 0) {
            faults.add("not in part " + part + " of the document: " + quote);
        }
        for (; from >= 0; from = text.indexOf(quote, from + 1)) {
            quoted.get(part).set(from, from + quote.length());
        }
    }

    private void lookForWordsWithoutRun() {
        parts.forEach((part, text) -> {
            char[] left = text.toCharArray();
            quoted.get(part).stream().forEach(i -> left[i] = '\n');
            Arrays.stream(new String(left).split("\n+")).filter(words -> words.matches(".*\\w.*"))
                    .forEach(words -> faults.add("part " + part + ": no run for: " + words.strip()));
        });
    }
}
