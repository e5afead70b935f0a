import java.io.IOException;
import java.nio.file.Files;
import java.nio.file.Path;
import java.util.ArrayList;
import java.util.Arrays;
import java.util.List;
import java.util.regex.Matcher;
import java.util.regex.Pattern;

/** The examples of the document and of README.md, read where they stand: each is a run on a new object. */
public final class ExamplesTest {
    private static final Pattern EXAMPLE = Pattern.compile("(?m)^(\\d+)\\. [^:\n]*: (.*)\\.$");
    private static final Pattern LINE = Pattern.compile("(?m)^x\\.(.*);(?: *// (-?\\d+)?.*)?$");

    public static void main(String[] args) throws IOException {
        document();
        readme();
        Due.end();
    }

    private static void document() throws IOException {
        Matcher examples = EXAMPLE.matcher(Document.section("Terms"));
        int count = 0;
        while (examples.find()) {
            count++;
            Due.same("the number of an example", Integer.parseInt(examples.group(1)), count);
            new Run(Arrays.asList(examples.group(2).split("; "))).check("example " + count);
        }
        Due.same("examples that were found", count, 4);
    }

    // A comment that begins with a number tells the answer; the other calls are changes that are made.
    private static void readme() throws IOException {
        Matcher calls = LINE.matcher(Files.readString(Path.of("README.md")));
        List<String> run = new ArrayList<>();
        while (calls.find()) {
            run.add(calls.group(1).replace("'", "") + " = " + (calls.group(2) == null ? "0" : calls.group(2)));
        }
        Due.same("calls of README.md", run.size(), 15);
        new Run(run).check("README.md");
    }
}
