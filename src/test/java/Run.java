import java.util.ArrayList;
import java.util.List;

/** A run of calls on a new object, as it is written under src/test/sentences. */
final class Run {
    private static final int MOST_CALLS = 512;
    private static final List<Call> QUESTIONS = new ArrayList<>();

    static {
        for (String line : new String[] {
            "fingerprint() = any", "areSame() = any", "uses(0|1) = any", "superOf(0|1, A..Z) = any",
            "members(0|1, A..Z) = any", "kindOf(0..29) = any", "nameOf(0..29, 0..3) = any",
            "needs(0..29) = any", "commutes(0..28) = any", "matchOfClass(A..Z) = any",
            "matchOfMember(A..Z, a..z) = any", "outcome(0..30) = any",
            "forecast(-1, false|true) = any",
        }) {
            QUESTIONS.addAll(Call.of(line));
        }
    }

    private final List<Call> calls = new ArrayList<>();

    Run(List<String> lines) {
        for (String line : lines) {
            if (line.startsWith("base: ")) {
                fill(0, line.substring(6));
            } else if (line.startsWith("version 1: ")) {
                fill(1, line.substring(11));
            } else if (line.startsWith("both: ")) {
                fill(0, line.substring(6));
                calls.addAll(Call.of("copyVersion() = any"));
            } else if (line.startsWith("log ")) {
                readChange(line.substring(4).split("[: ]+"));
            } else {
                calls.addAll(Call.of(line));
            }
        }
    }

    /** A program such as "A:ab B<A:c Bc>Aa": a class, one with a superclass, and a use. */
    private void fill(int version, String program) {
        for (String part : program.split(" ")) {
            if (part.contains(">")) {
                add("addUse(%d, %c, %c, %c, %c) = 0", version, part.charAt(0), part.charAt(1),
                        part.charAt(3), part.charAt(4));
            } else {
                fillClass(version, part.split(":"));
            }
            if (version == 0) {
                add("clearLog() = any");
            }
        }
    }

    private void fillClass(int version, String[] parts) {
        char name = parts[0].charAt(0);
        add("addClass(%d, %c) = 0", version, name);
        if (parts[0].length() > 1) {
            add("setSuper(%d, %c, %c) = 0", version, name, parts[0].charAt(2));
        }
        for (char member : (parts.length > 1 ? parts[1] : "").toCharArray()) {
            add("addMember(%d, %c, %c) = 0", version, name, member);
        }
    }

    /** A change of the log such as "0: 6 Aa-b": its number, its kind and its names a, m, b, n. */
    private void readChange(String[] parts) {
        add("kindOf(%s) = %s", parts[0], parts[1]);
        for (int which = 0; which < 4; which++) {
            char name = parts[2].charAt(which);
            add("nameOf(%s, %d) = %c", parts[0], which, name == '-' ? '0' : name);
        }
    }

    private void add(String form, Object... values) {
        calls.addAll(Call.of(String.format(form, values)));
    }

    void check(String where) {
        if (calls.size() > MOST_CALLS) {
            throw new IllegalArgumentException(where + " has more than 512 calls");
        }
        RefactoringReplay x = new RefactoringReplay();
        boolean right = true;
        for (int i = 0; i < calls.size() && right; i++) {
            String got = calls.get(i).askOf(x);
            right = calls.get(i).isDue(got);
            Due.same(where + ": call " + i + ", " + calls.get(i) + " answered " + got
                    + ", due is " + calls.get(i).due() + "; right", right, true);
        }
        if (right) {
            checkNothingElseChanged(where);
        }
    }

    /** An object that saw only the calls that may change something must tell the same as one that saw all. */
    private void checkNothingElseChanged(String where) {
        List<Call> effective = calls.stream().filter(Call::mayChange).toList();
        int room = MOST_CALLS - calls.size();
        for (int asked = 0; asked < QUESTIONS.size() && room >= 40; asked += room) {
            RefactoringReplay all = after(calls);
            RefactoringReplay some = after(effective);
            for (Call question : QUESTIONS.subList(asked, Math.min(asked + room, QUESTIONS.size()))) {
                String got = question.askOf(all);
                String want = question.askOf(some);
                Due.same(where + ": after calls that change nothing, " + question + " answered " + got
                        + ", due is " + want + "; right", got.equals(want), true);
            }
        }
    }

    private static RefactoringReplay after(List<Call> calls) {
        RefactoringReplay x = new RefactoringReplay();
        for (Call call : calls) {
            call.askOf(x);
        }
        return x;
    }
}
