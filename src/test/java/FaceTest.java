import java.lang.reflect.Constructor;
import java.lang.reflect.Field;
import java.lang.reflect.Method;
import java.lang.reflect.Modifier;
import java.nio.file.Files;
import java.nio.file.Path;
import java.util.Arrays;
import java.util.Set;
import java.util.TreeSet;

/** The public face of the document and the rules of LANGUAGE.md that can be seen without thinking. */
public final class FaceTest {
    private static final String[] FACE = {
        "int addClass(int,int)BAS", "int removeClass(int,int)BAS", "int renameClass(int,int,int)BAS",
        "int setSuper(int,int,int)BAS", "int addMember(int,int,int)BAS", "int removeMember(int,int,int)BAS",
        "int renameMember(int,int,int,int)BAS", "int moveMember(int,int,int,int)BAS",
        "int addUse(int,int,int,int,int)BAS", "int removeUse(int,int,int,int,int)BAS",
        "int classes(int)B", "int className(int,int)B", "int superOf(int,int)BA", "int members(int,int)BA",
        "int uses(int)B", "boolean hasUse(int,int,int,int,int)BA", "int copyVersion()", "boolean areSame()",
        "int log()", "int kindOf(int)B", "int nameOf(int,int)B", "int clearLog()", "int undo()S",
        "boolean commutes(int)B", "boolean exchange(int)B", "int needs(int)B",
        "int matchOfClass(int)A", "int matchOfMember(int,int)A", "int replay(int,boolean)A",
        "int forecast(int,boolean)A", "int outcome(int)B", "long fingerprint()",
    };
    private static final String[] FORBIDDEN = {
        "catch", "finally", "synchronized", "assert ", "->", "::", "import java.util.List", "System.out",
        "String.format", "hashCode", "toString", "package ", "Exact(", "double", "float", "static {",
    };

    public static void main(String[] args) throws Exception {
        face();
        hiddenMembers();
        text();
        Due.end();
    }

    private static void face() {
        Set<String> got = new TreeSet<>();
        Set<String> names = new TreeSet<>();
        for (Method m : RefactoringReplay.class.getDeclaredMethods()) {
            if (!Modifier.isPrivate(m.getModifiers())) {
                got.add(signature(m));
                names.add(m.getName());
            }
        }
        Set<String> want = new TreeSet<>(Arrays.asList(FACE));
        Due.same("the face is " + got + " instead of " + want, got.equals(want), true);
        for (Method m : RefactoringReplay.class.getDeclaredMethods()) {
            if (Modifier.isPrivate(m.getModifiers())) {
                Due.same(m.getName() + " is private and public", names.contains(m.getName()), false);
            }
        }
        int all = RefactoringReplay.class.getModifiers();
        Due.same("public and final", Modifier.isPublic(all) && Modifier.isFinal(all), true);
        Constructor<?>[] made = RefactoringReplay.class.getDeclaredConstructors();
        Due.same("one public constructor", made.length == 1 && Modifier.isPublic(made[0].getModifiers()), true);
        Due.same("it takes nothing", made[0].getParameterCount(), 0);
    }

    private static String signature(Method m) {
        StringBuilder s = new StringBuilder();
        s.append(m.getReturnType()).append(' ').append(m.getName()).append('(');
        for (int i = 0; i < m.getParameterCount(); i++) {
            s.append(i == 0 ? "" : ",").append(m.getParameterTypes()[i]);
        }
        s.append(')');
        for (Class<?> e : m.getExceptionTypes()) {
            s.append(e == IndexOutOfBoundsException.class ? "B" : e == IllegalArgumentException.class ? "A"
                    : e == IllegalStateException.class ? "S" : "?");
        }
        return s.toString();
    }

    private static void hiddenMembers() {
        for (Field f : RefactoringReplay.class.getDeclaredFields()) {
            Due.same(f.getName() + " is private", Modifier.isPrivate(f.getModifiers()), true);
            if (Modifier.isStatic(f.getModifiers())) {
                Due.same(f.getName() + " is final", Modifier.isFinal(f.getModifiers()), true);
            }
        }
        Class<?>[] inside = RefactoringReplay.class.getDeclaredClasses();
        Due.same("at most twelve classes", inside.length < 12, true);
        for (Class<?> c : inside) {
            Due.same(c.getName() + " is static", Modifier.isStatic(c.getModifiers()), true);
            Due.same(c.getName() + " is not public", Modifier.isPublic(c.getModifiers()), false);
            Due.same(c.getName() + " has at most twenty fields", c.getDeclaredFields().length <= 20, true);
            for (Method m : c.getDeclaredMethods()) {
                Due.same(m.getName() + " takes at most seven", m.getParameterCount() <= 7, true);
            }
        }
    }

    private static void text() throws Exception {
        String code = Files.readString(Path.of("src/main/java/RefactoringReplay.java"))
                .replaceAll("(?s)/\\*.*?\\*/", "").replaceAll("//[^\n]*", "");
        for (String word : FORBIDDEN) {
            Due.same("the text has " + word, code.contains(word), false);
        }
    }
}
