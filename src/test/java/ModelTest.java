import java.util.ArrayList;
import java.util.List;
import java.util.Random;

/** Runs of random calls, each answered by the class and by the model; the seeds are fixed. */
public final class ModelTest {
    private static final int CALLS = 512;

    private final Random random;
    private final RefactoringReplay real = new RefactoringReplay();
    private final Model model = new Model();
    private final List<String> told = new ArrayList<>();
    private final int classNames;
    private final int memberNames;
    private final int clearing;
    private final boolean crowded;
    private final int[] seen;
    private final int[] filling;

    private ModelTest(long seed, int[] seen) {
        // Small seeds next to one another would all begin with much the same numbers.
        random = new Random(seed * 0x9E3779B97F4A7C15L);
        this.seen = seen;
        crowded = random.nextInt(4) == 0;
        classNames = crowded ? 13 + random.nextInt(4) : 2 + random.nextInt(random.nextInt(4) == 0 ? 24 : 5);
        memberNames = crowded ? 8 + random.nextInt(19) : 2 + random.nextInt(random.nextInt(4) == 0 ? 24 : 5);
        clearing = 5 + random.nextInt(60);
        filling = random.nextInt(2) == 0 ? new int[] {0, 3, 4, 8} : new int[] {0, 1, 2, 3, 4, 5, 6, 7, 8, 9};
    }

    public static void main(String[] args) {
        int runs = args.length > 0 ? Integer.parseInt(args[0]) : 600;
        long first = args.length > 1 ? Long.parseLong(args[1]) : 1;
        int[] seen = new int[256];
        for (long seed = first; seed < first + runs; seed++) {
            String wrong = new ModelTest(seed, seen).run();
            if (wrong != null) {
                System.out.println("seed " + seed + ": " + wrong);
                System.exit(1);
            }
        }
        StringBuilder rare = new StringBuilder();
        for (int fault : new int[] {1, 2, 3, 4, 5, 9}) {
            rare.append(" fault ").append(fault).append(": ").append(seen[fault]);
        }
        for (int outcome : new int[] {0, 1, 2, 3, 4, 5, 6, 9, 100}) {
            rare.append(" outcome ").append(outcome).append(": ").append(seen[128 + outcome]);
        }
        rare.append(" commute: ").append(seen[120]).append(" not: ").append(seen[121]);
        System.out.println(runs + " runs agree with the model;" + rare);
    }

    private String run() {
        int filled = crowded ? crowd() : 0;
        for (int call = filled; call < CALLS; call++) {
            String wrong = oneCall();
            if (wrong != null) {
                return String.join("\n", told) + "\n" + wrong;
            }
        }
        return null;
    }

    /** Fills version 0, and version 1 with it, so far that the limits are near; returns the calls it took. */
    private int crowd() {
        int calls = 0;
        int classes = 10 + random.nextInt(3);
        while (model.versions[0].supers.size() < classes) {
            calls += fillBy(new Model.Step(0, className(), 0, 0, 0));
        }
        for (int made = 0; made < 4; made++) {
            calls += fillBy(new Model.Step(3, className(), 0, className(), 0));
        }
        int members = 37 + random.nextInt(4);
        while (model.versions[0].members.size() < members) {
            calls += fillBy(new Model.Step(4, className(), memberName(), 0, 0));
        }
        int uses = 57 + random.nextInt(4);
        while (model.versions[0].uses.size() < uses) {
            int user = memberOf(model.versions[0]);
            int used = memberOf(model.versions[0]);
            calls += fillBy(new Model.Step(8, user / 256, user % 256, used / 256, used % 256));
        }
        model.clearLog();
        model.versions[1] = model.versions[0].copy();
        real.clearLog();
        real.copyVersion();
        return calls + 2;
    }

    /** Makes the step if it has no fault; returns how many calls that took. */
    private int fillBy(Model.Step step) {
        if (model.change(0, step) != 0) {
            return 0;
        }
        told.add("change 0 " + step);
        if (make(0, step) != 0) {
            throw new IllegalStateException(told + " the last one has a fault");
        }
        if (model.log.size() < 30) {
            return 1;
        }
        told.add("clearLog()");
        real.clearLog();
        model.clearLog();
        return 2;
    }

    private int className() {
        return 'A' + random.nextInt(classNames);
    }

    private int memberName() {
        return 'a' + random.nextInt(memberNames);
    }

    private String oneCall() {
        int dice = random.nextInt(100);
        if (dice < 60) {
            return change();
        }
        if (dice < 70) {
            return commuting();
        }
        if (dice < 80) {
            return matching();
        }
        if (dice < 88) {
            return replaying();
        }
        if (dice < 96) {
            return reading();
        }
        return wholeLog();
    }

    private int memberOf(Model.State state) {
        if (state.members.isEmpty() || random.nextInt(8) == 0) {
            return 256 * className() + memberName();
        }
        return new ArrayList<>(state.members).get(random.nextInt(state.members.size()));
    }

    private String change() {
        int version = random.nextInt(2);
        Model.State state = model.versions[version];
        int kind = random.nextInt(2) == 0 ? filling[random.nextInt(filling.length)] : random.nextInt(10);
        int user = kind >= 5 ? memberOf(state) : 256 * className() + memberName();
        int used = kind >= 8 ? memberOf(state) : 256 * className() + memberName();
        int a = user / 256;
        int m = kind >= 4 ? user % 256 : 0;
        boolean hasB = kind == 2 || kind == 3 || kind >= 7;
        int b = !hasB || kind == 3 && random.nextInt(4) == 0 ? 0 : used / 256;
        int n = kind == 6 || kind >= 8 ? used % 256 : 0;
        Model.Step step = new Model.Step(kind, a, m, b, n);
        if (version == 0 && model.log.size() == 30) {
            told.add("clearLog()");
            return diff("clearLog", real.clearLog(), model.clearLog());
        }
        told.add("change " + version + " " + step);
        int want = model.change(version, step);
        seen[want]++;
        return diff("change " + version + " " + step, make(version, step), want);
    }

    private int make(int version, Model.Step s) {
        return switch (s.kind()) {
            case 0 -> real.addClass(version, s.a());
            case 1 -> real.removeClass(version, s.a());
            case 2 -> real.renameClass(version, s.a(), s.b());
            case 3 -> real.setSuper(version, s.a(), s.b());
            case 4 -> real.addMember(version, s.a(), s.m());
            case 5 -> real.removeMember(version, s.a(), s.m());
            case 6 -> real.renameMember(version, s.a(), s.m(), s.n());
            case 7 -> real.moveMember(version, s.a(), s.m(), s.b());
            case 8 -> real.addUse(version, s.a(), s.m(), s.b(), s.n());
            default -> real.removeUse(version, s.a(), s.m(), s.b(), s.n());
        };
    }

    private String commuting() {
        int size = model.log.size();
        if (size < 2) {
            return null;
        }
        int i = random.nextInt(size);
        int dice = random.nextInt(3);
        if (dice == 0 || i == size - 1) {
            return diff("needs " + i, real.needs(i), model.needs(i));
        }
        boolean want = model.commutes(i);
        seen[want ? 120 : 121]++;
        if (dice == 1) {
            return diff("commutes " + i, real.commutes(i) ? 1 : 0, want ? 1 : 0);
        }
        told.add("exchange " + i);
        model.exchange(i);
        String wrong = diff("exchange " + i, real.exchange(i) ? 1 : 0, want ? 1 : 0);
        return wrong != null ? wrong : readLog();
    }

    private String readLog() {
        for (int i = 0; i < model.log.size(); i++) {
            String wrong = diff("kindOf " + i, real.kindOf(i), model.log.get(i).kind());
            for (int which = 0; which < 4 && wrong == null; which++) {
                wrong = diff("nameOf " + i + " " + which, real.nameOf(i, which), model.log.get(i).name(which));
            }
            if (wrong != null) {
                return wrong;
            }
        }
        return diff("log", real.log(), model.log.size());
    }

    private String matching() {
        if (random.nextInt(2) == 0) {
            int a = className();
            return diff("matchOfClass " + a, real.matchOfClass(a), model.matchOfClass(a));
        }
        int code = memberOf(model.base);
        int a = code / 256;
        int m = code % 256;
        return diff("matchOfMember " + a + " " + m, real.matchOfMember(a, m), model.matchOfMember(a, m));
    }

    private String replaying() {
        int all = (1 << model.log.size()) - 1;
        int selection = random.nextInt(2) == 0 ? -1 : random.nextInt() & all;
        boolean mend = random.nextBoolean();
        if (random.nextInt(2) == 0) {
            int got = real.forecast(selection, mend);
            String wrong = diff("forecast " + selection + " " + mend, got, model.forecast(selection, mend));
            return wrong != null ? wrong : readOutcomes();
        }
        told.add("replay " + selection + " " + mend);
        int got = real.replay(selection, mend);
        int want = model.replay(selection, mend);
        for (int outcome : model.outcomes) {
            seen[128 + outcome]++;
        }
        String wrong = diff("replay", got, want);
        return wrong != null ? wrong : readOutcomes();
    }

    private String readOutcomes() {
        for (int i = 0; i < model.outcomes.length; i++) {
            String wrong = diff("outcome " + i, real.outcome(i), model.outcomes[i]);
            if (wrong != null) {
                return wrong;
            }
        }
        return diff("fingerprint", real.fingerprint(), model.fingerprint());
    }

    private String reading() {
        int version = random.nextInt(2);
        Model.State state = model.versions[version];
        int a = className();
        String[] wrong = {
            diff("classes", real.classes(version), state.supers.size()),
            diff("superOf " + a, real.superOf(version, a), state.supers.getOrDefault(a, -1)),
            diff("members " + a, real.members(version, a), model.memberSet(version, a)),
            diff("uses", real.uses(version), state.uses.size()),
            diff("areSame", real.areSame() ? 1 : 0, model.versions[0].same(model.versions[1]) ? 1 : 0),
            readUse(version, memberOf(state), memberOf(state)),
            readOutcomes(),
        };
        for (String w : wrong) {
            if (w != null) {
                return w;
            }
        }
        int i = 0;
        for (int name : state.supers.keySet()) {
            String w = diff("className " + i, real.className(version, i), name);
            if (w != null) {
                return w;
            }
            i++;
        }
        return null;
    }

    private String readUse(int version, int user, int used) {
        boolean got = real.hasUse(version, user / 256, user % 256, used / 256, used % 256);
        boolean want = model.versions[version].uses.contains(65536L * user + used);
        return diff("hasUse " + user + " " + used, got ? 1 : 0, want ? 1 : 0);
    }

    private String wholeLog() {
        if (random.nextInt(clearing) < 5) {
            told.add("clearLog()");
            String wrong = diff("clearLog", real.clearLog(), model.clearLog());
            if (wrong != null || random.nextInt(2) == 0) {
                return wrong;
            }
            told.add("copyVersion()");
            model.versions[1] = model.versions[0].copy();
            return diff("copyVersion", real.copyVersion(), model.versions[1].supers.size());
        }
        if (model.log.isEmpty()) {
            return null;
        }
        told.add("undo()");
        String wrong = diff("undo", real.undo(), model.undo());
        return wrong != null ? wrong : diff("fingerprint", real.fingerprint(), model.fingerprint());
    }

    private static String diff(String what, long got, long want) {
        return got == want ? null : what + " answered " + got + ", due is " + want;
    }
}
