import java.lang.reflect.InvocationTargetException;
import java.lang.reflect.Method;
import java.util.ArrayList;
import java.util.Arrays;
import java.util.List;
import java.util.Set;
import java.util.regex.Matcher;
import java.util.regex.Pattern;

/** One call of the face with the answer that is due: a number, or an exception's name. */
record Call(Method method, List<Long> given, String due) {
    private static final Pattern FORM = Pattern.compile("(?:(\\d+) \\* )?(\\w+)\\((.*)\\) = (.*)");
    private static final Set<String> CHANGES = Set.of("addClass", "removeClass", "renameClass", "setSuper",
            "addMember", "removeMember", "renameMember", "moveMember", "addUse", "removeUse");
    private static final Set<String> OTHERS = Set.of("copyVersion", "clearLog", "undo", "replay");
    private static final String ANY = "any";

    /** All calls of a line such as "2 * addMember(0|1, A, a..z) = 0". */
    static List<Call> of(String line) {
        Matcher parts = FORM.matcher(line);
        if (!parts.matches()) {
            throw new IllegalArgumentException("not a call: " + line);
        }
        List<List<Long>> rows = new ArrayList<>(List.of(List.of()));
        for (String argument : parts.group(3).isEmpty() ? new String[0] : parts.group(3).split(", ")) {
            List<List<Long>> longer = new ArrayList<>();
            for (List<Long> row : rows) {
                for (long value : Notation.choices(argument)) {
                    List<Long> next = new ArrayList<>(row);
                    next.add(value);
                    longer.add(next);
                }
            }
            rows = longer;
        }
        List<Call> calls = new ArrayList<>();
        int times = parts.group(1) == null ? 1 : Integer.parseInt(parts.group(1));
        for (int i = 0; i < times; i++) {
            for (List<Long> row : rows) {
                calls.add(new Call(methodOf(parts.group(2)), row, answer(parts.group(4))));
            }
        }
        return calls;
    }

    private static Method methodOf(String name) {
        for (Method method : RefactoringReplay.class.getDeclaredMethods()) {
            if (method.getName().equals(name)) {
                return method;
            }
        }
        throw new IllegalArgumentException("no method " + name);
    }

    private static String answer(String text) {
        boolean told = text.startsWith("throws ") || text.equals(ANY);
        return told ? text : Long.toString(Notation.number(text));
    }

    /** Whether the document lets this call change anything at all. */
    boolean mayChange() {
        String name = method.getName();
        if (due.startsWith("throws ")) {
            return false;
        }
        return OTHERS.contains(name) || CHANGES.contains(name) && due.equals("0")
                || name.equals("exchange") && due.equals("1");
    }

    boolean isDue(String got) {
        return due.equals(ANY) || due.equals(got);
    }

    String askOf(RefactoringReplay x) {
        Object[] values = new Object[given.size()];
        for (int i = 0; i < values.length; i++) {
            boolean flag = method.getParameterTypes()[i] == boolean.class;
            values[i] = flag ? (Object) (given.get(i) != 0) : (Object) given.get(i).intValue();
        }
        try {
            Object got = method.invoke(x, values);
            return got instanceof Boolean b ? (b ? "1" : "0") : got.toString();
        } catch (InvocationTargetException e) {
            return "throws " + e.getCause().getClass().getSimpleName();
        } catch (IllegalAccessException e) {
            throw new IllegalStateException(e);
        }
    }

    @Override
    public String toString() {
        return method.getName() + Arrays.toString(given.toArray());
    }
}
