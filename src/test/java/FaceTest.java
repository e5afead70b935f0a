import java.io.IOException;
import java.lang.reflect.Constructor;
import java.lang.reflect.Method;
import java.lang.reflect.Modifier;
import java.nio.file.Files;
import java.nio.file.Path;
import java.util.regex.Matcher;
import java.util.regex.Pattern;

/** The public face, as the document writes it: its lines, their order and their headings, and nothing else. */
public final class FaceTest {
    private static final Pattern HEADING = Pattern.compile("(?m)^Ahead of the calls (.*) the interface says: (.*)\\.$");
    private static final Path MAIN = Path.of("src/main/java/RefactoringReplay.java");

    public static void main(String[] args) throws IOException {
        declarations();
        nothingElse();
        headings();
        Due.end();
    }

    /** The source declares each line of the face as the document writes it, in the document's order. */
    private static void declarations() throws IOException {
        String code = Files.readString(MAIN).replaceAll("\\s+", " ");
        int last = -1;
        int count = 0;
        for (String line : Document.section("The public face").split("\n")) {
            if (line.trim().startsWith("public ")) {
                count++;
                int at = code.indexOf(line.trim().replace(";", " {"));
                Due.same("is declared, behind those ahead of it: " + line.trim(), at > last, true);
                last = at;
            }
        }
        Due.same("lines of the face", count, 34);
    }

    private static void nothingElse() {
        int open = 0;
        for (Method m : RefactoringReplay.class.getDeclaredMethods()) {
            boolean hidden = Modifier.isPrivate(m.getModifiers());
            Due.same(m + " is public or private", hidden || Modifier.isPublic(m.getModifiers()), true);
            open += hidden ? 0 : 1;
        }
        Due.same("public methods", open, 32);
        Constructor<?>[] made = RefactoringReplay.class.getDeclaredConstructors();
        Due.same("constructors", made.length, 1);
        Due.same("what it takes", made[0].getParameterCount(), 0);
        Due.same("public fields", RefactoringReplay.class.getFields().length, 0);
        Due.same("public classes", RefactoringReplay.class.getClasses().length, 0);
    }

    /** The headings of the document stand in the source ahead of the calls that they are for. */
    private static void headings() throws IOException {
        String code = Files.readString(MAIN);
        Matcher groups = HEADING.matcher(Document.section("Terms"));
        int count = 0;
        while (groups.find()) {
            count++;
            int at = code.indexOf("// " + groups.group(2) + "\n");
            Due.same("has the heading " + groups.group(2), at >= 0, true);
            for (String name : groups.group(1).replace("`", "").split(", ")) {
                Matcher declared = Pattern.compile("public \\w+ " + name + "\\(").matcher(code);
                int heading = declared.find() ? code.lastIndexOf("// ---- ", declared.start()) : -1;
                Due.same(name + " stands under " + groups.group(2), heading, at);
            }
        }
        Due.same("headings of the document", count, 4);
    }
}
