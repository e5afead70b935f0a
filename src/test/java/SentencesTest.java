import java.io.IOException;
import java.nio.file.Files;
import java.nio.file.Path;
import java.util.ArrayList;
import java.util.List;
import java.util.Map;
import java.util.TreeMap;
import java.util.regex.Matcher;
import java.util.regex.Pattern;
import java.util.stream.Stream;

/**
 * The document sentence by sentence: the files under src/test/sentences quote each sentence of what it is,
 * of the terms and of the promises, with runs that would go otherwise if it was broken. A quote that does not stand
 * just once in its section of DOC.md is a failure, and so is a sentence of DOC.md that has no quote.
 */
public final class SentencesTest {
    private static final Pattern PIECE = Pattern.compile("\\S.*?(?:[.;](?=\\s)|$)");

    private final Map<String, String> sections = new TreeMap<>();
    private final Map<String, List<int[]>> quoted = new TreeMap<>();
    private String section = "";
    private String quote = "";
    private final List<String> lines = new ArrayList<>();
    private int runsOfQuote = 1;

    public static void main(String[] args) throws IOException {
        SentencesTest test = new SentencesTest();
        test.sections.putAll(Document.sections());
        try (Stream<Path> files = Files.list(Path.of("src/test/sentences"))) {
            for (Path file : files.sorted().toList()) {
                test.read(Files.readAllLines(file));
            }
        }
        test.sections.forEach(test::checkAllQuoted);
        Due.end();
    }

    private void read(List<String> text) {
        for (String line : text) {
            if (line.startsWith("== ")) {
                endQuote();
                section = line.substring(3);
            } else if (line.startsWith("> ")) {
                endQuote();
                beginQuote(line.substring(2));
            } else if (line.isBlank()) {
                endRun();
            } else if (!line.startsWith("# ")) {
                lines.add(line);
            }
        }
        endQuote();
        section = "";
    }

    private void beginQuote(String text) {
        quote = text;
        runsOfQuote = 0;
        String whole = sections.getOrDefault(section, "");
        int at = whole.indexOf(text);
        boolean once = at >= 0 && whole.indexOf(text, at + 1) < 0;
        Due.same(section + ": stands there once: " + text, once, true);
        List<int[]> places = quoted.computeIfAbsent(section, s -> new ArrayList<>());
        for (int[] place : places) {
            Due.same(section + ": quoted twice: " + text, place[0] == at && place[1] == at + text.length(), false);
        }
        places.add(new int[] {at, at + text.length()});
    }

    private void endQuote() {
        endRun();
        Due.same(section + ": has a run: " + quote, runsOfQuote > 0, true);
    }

    private void endRun() {
        if (!lines.isEmpty()) {
            runsOfQuote++;
            new Run(lines).check(section + ", \"" + quote + "\", run " + runsOfQuote);
            lines.clear();
        }
    }

    private void checkAllQuoted(String name, String text) {
        if (!name.equals("What it is") && !name.equals("Terms") && !name.startsWith("Promise ")) {
            return;
        }
        List<int[]> places = quoted.getOrDefault(name, List.of());
        int start = text.indexOf('\n');
        for (String line : text.substring(start).split("\n")) {
            Matcher pieces = PIECE.matcher(line);
            while (isSentence(line) && pieces.find()) {
                int from = start + pieces.start();
                int to = start + pieces.end();
                boolean found = places.stream().anyMatch(p -> p[0] < to && p[1] > from);
                boolean label = pieces.group().split(" ").length < 2;
                Due.same(name + ": is quoted: " + pieces.group(), found || label, true);
            }
            start += line.length() + 1;
        }
    }

    // ExamplesTest reads the examples, FaceTest the headings of the calls.
    private static boolean isSentence(String line) {
        return !line.matches("\\d+\\. .*") && !line.startsWith("Examples: ") && !line.startsWith("Ahead of the calls");
    }
}
