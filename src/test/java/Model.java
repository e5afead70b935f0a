import java.util.ArrayList;
import java.util.List;
import java.util.Map;
import java.util.TreeMap;
import java.util.TreeSet;

/**
 * The document's words a second time, held by names alone: every rename rewrites all that bears the
 * name, and matches are pairs of names. So its mistakes are hardly those of the class under test.
 */
final class Model {
    /** kind, a, m, b, n. */
    record Step(int kind, int a, int m, int b, int n) {
        int name(int which) {
            return which == 0 ? a : which == 1 ? m : which == 2 ? b : n;
        }
    }

    static final class State {
        final TreeMap<Integer, Integer> supers = new TreeMap<>();
        final TreeSet<Integer> members = new TreeSet<>();
        final TreeSet<Long> uses = new TreeSet<>();

        State copy() {
            State s = new State();
            s.supers.putAll(supers);
            s.members.addAll(members);
            s.uses.addAll(uses);
            return s;
        }

        boolean same(State o) {
            return supers.equals(o.supers) && members.equals(o.members) && uses.equals(o.uses);
        }

        TreeSet<Integer> ancestors(int a) {
            TreeSet<Integer> found = new TreeSet<>();
            for (int up = supers.get(a); up != 0; up = supers.get(up)) {
                found.add(up);
            }
            return found;
        }

        TreeSet<Integer> descendants(int a) {
            TreeSet<Integer> found = new TreeSet<>();
            for (int c : supers.keySet()) {
                if (ancestors(c).contains(a)) {
                    found.add(c);
                }
            }
            return found;
        }

        TreeSet<Integer> names(int a) {
            TreeSet<Integer> found = new TreeSet<>();
            for (int code : members) {
                if (code / 256 == a) {
                    found.add(code % 256);
                }
            }
            return found;
        }

        boolean relativeHas(int a, int m) {
            TreeSet<Integer> line = ancestors(a);
            line.addAll(descendants(a));
            for (int c : line) {
                if (members.contains(256 * c + m)) {
                    return true;
                }
            }
            return false;
        }

        int fault(Step s) {
            boolean hasA = supers.containsKey(s.a);
            boolean hasB = supers.containsKey(s.b);
            boolean hasM = members.contains(256 * s.a + s.m);
            boolean hasN = members.contains(256 * s.b + s.n);
            switch (s.kind) {
                case 0:
                    return hasA ? 1 : supers.size() == 12 ? 9 : 0;
                case 1:
                    return !hasA ? 2 : !names(s.a).isEmpty() || supers.containsValue(s.a) ? 3 : 0;
                case 2:
                    return !hasA ? 2 : hasB ? 1 : 0;
                case 3:
                    return !hasA || s.b != 0 && !hasB ? 2 : s.b == 0 ? 0 : superFault(s.a, s.b);
                case 4:
                    return !hasA ? 2 : hasM ? 1 : relativeHas(s.a, s.m) ? 5 : members.size() == 40 ? 9 : 0;
                case 5:
                    return !hasM ? 2 : usedByAnother(256 * s.a + s.m) ? 3 : 0;
                case 6:
                    return !hasM ? 2 : members.contains(256 * s.a + s.n) || relativeHas(s.a, s.n) ? 5 : 0;
                case 7:
                    return !hasM || !hasB ? 2 : s.a == s.b ? 1 : moveFault(s);
                case 8:
                    return !hasM || !hasN ? 2 : uses.contains(use(s)) ? 1 : uses.size() == 60 ? 9 : 0;
                default:
                    return !hasM || !hasN || !uses.contains(use(s)) ? 2 : 0;
            }
        }

        private int superFault(int a, int b) {
            if (a == b || descendants(a).contains(b)) {
                return 4;
            }
            TreeSet<Integer> low = names(a);
            for (int c : descendants(a)) {
                low.addAll(names(c));
            }
            TreeSet<Integer> high = names(b);
            for (int c : ancestors(b)) {
                high.addAll(names(c));
            }
            low.retainAll(high);
            return low.isEmpty() ? 0 : 5;
        }

        private int moveFault(Step s) {
            State without = copy();
            without.members.remove(256 * s.a + s.m);
            return without.members.contains(256 * s.b + s.m) || without.relativeHas(s.b, s.m) ? 5 : 0;
        }

        private boolean usedByAnother(int code) {
            for (long u : uses) {
                if (u % 65536 == code && u / 65536 != code) {
                    return true;
                }
            }
            return false;
        }

        private static long use(Step s) {
            return 65536L * (256 * s.a + s.m) + 256 * s.b + s.n;
        }

        void make(Step s) {
            switch (s.kind) {
                case 0 -> supers.put(s.a, 0);
                case 1 -> supers.remove(s.a);
                case 2 -> {
                    supers.put(s.b, supers.remove(s.a));
                    supers.replaceAll((k, v) -> v == s.a ? s.b : v);
                }
                case 3 -> supers.put(s.a, s.b);
                case 4 -> members.add(256 * s.a + s.m);
                case 5 -> {
                    members.remove(256 * s.a + s.m);
                    uses.removeIf(u -> u / 65536 == 256 * s.a + s.m);
                }
                case 8 -> uses.add(use(s));
                case 9 -> uses.remove(use(s));
                default -> { }
            }
            List<Integer> codes = new ArrayList<>(members);
            members.clear();
            for (int c : codes) {
                members.add(moved(c, s));
            }
            List<Long> pairs = new ArrayList<>(uses);
            uses.clear();
            for (long u : pairs) {
                uses.add(65536L * moved((int) (u / 65536), s) + moved((int) (u % 65536), s));
            }
        }

        int attempt(Step s) {
            int fault = fault(s);
            if (fault == 0) {
                make(s);
            }
            return fault;
        }
    }

    /** Where the member with this class and name is after the step. */
    static int moved(int code, Step s) {
        if (s.kind == 2 && code / 256 == s.a) {
            return 256 * s.b + code % 256;
        }
        if (s.kind == 6 && code == 256 * s.a + s.m) {
            return 256 * s.a + s.n;
        }
        if (s.kind == 7 && code == 256 * s.a + s.m) {
            return 256 * s.b + s.m;
        }
        return code;
    }

    static int movedClass(int name, Step s) {
        return s.kind == 2 && name == s.a ? s.b : name;
    }

    State base = new State();
    final State[] versions = {new State(), new State()};
    List<Step> log = new ArrayList<>();
    int[] outcomes = new int[0];

    int change(int version, Step s) {
        int fault = versions[version].attempt(s);
        if (fault == 0 && version == 0) {
            log.add(s);
        }
        return fault;
    }

    State after(List<Step> steps, int count) {
        State s = base.copy();
        for (int i = 0; i < count; i++) {
            s.make(steps.get(i));
        }
        return s;
    }

    int undo() {
        log.remove(log.size() - 1);
        versions[0] = after(log, log.size());
        return log.size();
    }

    int clearLog() {
        int had = log.size();
        log.clear();
        base = versions[0].copy();
        return had;
    }

    /** The step with names of classes and members as they are after (or before) the step through. */
    static Step carried(Step x, Step through, boolean forward) {
        Step t = through;
        if (!forward) {
            t = switch (through.kind) {
                case 2 -> new Step(2, through.b, 0, through.a, 0);
                case 6 -> new Step(6, through.a, through.n, 0, through.m);
                case 7 -> new Step(7, through.b, through.m, through.a, 0);
                default -> through;
            };
        }
        int a = x.a;
        int m = x.m;
        int b = x.b;
        int n = x.n;
        if (x.kind >= 5) {
            int code = moved(256 * a + m, t);
            a = code / 256;
            m = code % 256;
        } else if (x.kind != 0) {
            a = movedClass(a, t);
        }
        if (x.kind >= 8) {
            int code = moved(256 * b + n, t);
            b = code / 256;
            n = code % 256;
        } else if (x.kind != 2) {
            b = movedClass(b, t);
        }
        return new Step(x.kind, a, m, b, n);
    }

    /** d' and c' if c and d commute, otherwise null. */
    static Step[] crossing(State before, Step c, Step d) {
        Step early = carried(d, c, false);
        Step late = carried(c, early, true);
        State straight = before.copy();
        straight.make(c);
        straight.make(d);
        State crossed = before.copy();
        if (crossed.attempt(early) != 0 || crossed.attempt(late) != 0 || !crossed.same(straight)) {
            return null;
        }
        return new Step[] {early, late};
    }

    boolean commutes(int i) {
        return crossing(after(log, i), log.get(i), log.get(i + 1)) != null;
    }

    boolean exchange(int i) {
        Step[] pair = crossing(after(log, i), log.get(i), log.get(i + 1));
        if (pair != null) {
            log.set(i, pair[0]);
            log.set(i + 1, pair[1]);
        }
        return pair != null;
    }

    int needs(int i) {
        int needed = 0;
        List<Step> before = new ArrayList<>(log.subList(0, i));
        List<Step> block = new ArrayList<>(List.of(log.get(i)));
        for (int j = i - 1; j >= 0; j--) {
            Step c = before.remove(j);
            List<Step> newBlock = pushed(after(before, j), c, block);
            if (newBlock == null) {
                needed |= 1 << j;
                block.add(0, c);
            } else {
                block = newBlock;
            }
        }
        return needed;
    }

    private static List<Step> pushed(State state, Step c, List<Step> block) {
        List<Step> result = new ArrayList<>();
        Step moving = c;
        for (Step d : block) {
            Step[] pair = crossing(state, moving, d);
            if (pair == null) {
                return null;
            }
            state.make(pair[0]);
            result.add(pair[0]);
            moving = pair[1];
        }
        return result;
    }

    /** Pairs of names, of the base or what became of it to version 1. */
    static final class Pairs {
        TreeMap<Integer, Integer> classes = new TreeMap<>();
        TreeMap<Integer, Integer> members = new TreeMap<>();

        Pairs(State base, State other) {
            for (int c : base.supers.keySet()) {
                if (other.supers.containsKey(c)) {
                    classes.put(c, c);
                }
            }
            for (int c : base.supers.keySet()) {
                if (!classes.containsKey(c)) {
                    pairByMembers(c, base, other);
                }
            }
            for (int code : base.members) {
                Integer c = classes.get(code / 256);
                if (c != null && other.members.contains(256 * c + code % 256)) {
                    members.put(code, 256 * c + code % 256);
                }
            }
            for (int code : base.members) {
                if (!members.containsKey(code)) {
                    List<Integer> free = new ArrayList<>();
                    for (int o : other.members) {
                        if (o % 256 == code % 256 && !members.containsValue(o)) {
                            free.add(o);
                        }
                    }
                    if (free.size() == 1) {
                        members.put(code, free.get(0));
                    }
                }
            }
        }

        private void pairByMembers(int c, State base, State other) {
            int best = 0;
            int bestCommon = 0;
            for (int o : other.supers.descendingKeySet()) {
                TreeSet<Integer> common = base.names(c);
                common.retainAll(other.names(o));
                if (!classes.containsValue(o) && common.size() >= bestCommon) {
                    best = o;
                    bestCommon = common.size();
                }
            }
            if (bestCommon > 0 && bestCommon * 2 >= base.names(c).size()) {
                classes.put(c, best);
            }
        }

        void stepInVersion0(Step s) {
            TreeMap<Integer, Integer> newClasses = new TreeMap<>();
            for (Map.Entry<Integer, Integer> e : classes.entrySet()) {
                newClasses.put(movedClass(e.getKey(), s), e.getValue());
            }
            TreeMap<Integer, Integer> newMembers = new TreeMap<>();
            for (Map.Entry<Integer, Integer> e : members.entrySet()) {
                newMembers.put(moved(e.getKey(), s), e.getValue());
            }
            classes = newClasses;
            members = newMembers;
            if (s.kind == 1) {
                classes.remove(s.a);
            } else if (s.kind == 5) {
                members.remove(256 * s.a + s.m);
            }
        }

        void stepInVersion1(Step s) {
            classes.replaceAll((k, v) -> movedClass(v, s));
            members.replaceAll((k, v) -> moved(v, s));
        }
    }

    int matchOfClass(int a) {
        return !base.supers.containsKey(a) ? -1 : new Pairs(base, versions[1]).classes.getOrDefault(a, 0);
    }

    int matchOfMember(int a, int m) {
        int code = 256 * a + m;
        return !base.members.contains(code) ? -1 : new Pairs(base, versions[1]).members.getOrDefault(code, 0);
    }

    int replay(int selection, boolean mend) {
        outcomes = new int[log.size()];
        return play(versions[1], selection, mend, outcomes);
    }

    int forecast(int selection, boolean mend) {
        return play(versions[1].copy(), selection, mend, new int[log.size()]);
    }

    private int play(State target, int selection, boolean mend, int[] results) {
        Pairs pairs = new Pairs(base, target);
        int count = 0;
        for (int i = 0; i < log.size(); i++) {
            Step s = log.get(i);
            Step done = null;
            results[i] = -1;
            if ((selection & 1 << i) != 0) {
                Step meant = meant(s, pairs);
                if (meant == null) {
                    results[i] = 2;
                } else {
                    int[] result = new int[1];
                    done = playOne(meant, target, mend, pairs, result);
                    results[i] = result[0];
                }
            }
            pairs.stepInVersion0(s);
            if (results[i] == 0 || results[i] == 100) {
                count++;
                if (s.kind == 0) {
                    pairs.classes.put(s.a, done.a);
                } else if (s.kind == 4) {
                    pairs.members.put(256 * s.a + s.m, 256 * done.a + done.m);
                }
            }
        }
        return count;
    }

    /** The step in the names of version 1, null if something has no match. */
    private static Step meant(Step s, Pairs pairs) {
        Integer ca = pairs.classes.get(s.a);
        Integer cb = pairs.classes.get(s.b);
        Integer user = pairs.members.get(256 * s.a + s.m);
        Integer used = pairs.members.get(256 * s.b + s.n);
        switch (s.kind) {
            case 0:
                return s;
            case 1: case 2: case 4:
                return ca == null ? null : new Step(s.kind, ca, s.m, s.b, s.n);
            case 3:
                return ca == null || s.b != 0 && cb == null ? null : new Step(3, ca, 0, s.b == 0 ? 0 : cb, 0);
            case 5: case 6:
                return user == null ? null : new Step(s.kind, user / 256, user % 256, 0, s.n);
            case 7:
                return user == null || cb == null ? null : new Step(7, user / 256, user % 256, cb, 0);
            default:
                return user == null || used == null ? null
                        : new Step(s.kind, user / 256, user % 256, used / 256, used % 256);
        }
    }

    private static Step playOne(Step s, State target, boolean mend, Pairs pairs, int[] result) {
        int fault = target.fault(s);
        if (fault == 0) {
            target.make(s);
            pairs.stepInVersion1(s);
            return s;
        }
        result[0] = fault;
        if (fault == 1 && (s.kind == 0 || s.kind == 4 || s.kind == 7 || s.kind == 8)) {
            boolean taken = s.kind == 0 && pairs.classes.containsValue(s.a)
                    || s.kind == 4 && pairs.members.containsValue(256 * s.a + s.m);
            result[0] = taken ? 6 : 0;
            return s;
        }
        if (s.kind == 2 && s.a == s.b || s.kind == 6 && s.m == s.n) {
            result[0] = 0;
            return s;
        }
        boolean mendable = s.kind == 2 && fault == 1 || (s.kind == 4 || s.kind == 6) && fault == 5;
        if (!mend || !mendable) {
            return s;
        }
        for (int shift = 1; shift <= 25; shift++) {
            Step other = switch (s.kind) {
                case 2 -> new Step(2, s.a, 0, 'A' + (s.b - 'A' + shift) % 26, 0);
                case 4 -> new Step(4, s.a, 'a' + (s.m - 'a' + shift) % 26, 0, 0);
                default -> new Step(6, s.a, s.m, 0, 'a' + (s.n - 'a' + shift) % 26);
            };
            int f = target.fault(other);
            if (f == 0) {
                target.make(other);
                pairs.stepInVersion1(other);
                result[0] = 100;
                return other;
            }
            if (f != 1 && f != 5) {
                result[0] = f;
                return s;
            }
        }
        return s;
    }

    int memberSet(int version, int a) {
        if (!versions[version].supers.containsKey(a)) {
            return -1;
        }
        int set = 0;
        for (int m : versions[version].names(a)) {
            set |= 1 << m - 'a';
        }
        return set;
    }

    long fingerprint() {
        long f = 43;
        for (int v = 0; v < 2; v++) {
            for (Map.Entry<Integer, Integer> e : versions[v].supers.entrySet()) {
                f = 31 * f + e.getKey();
                f = 31 * f + e.getValue();
                f = 31 * f + memberSet(v, e.getKey());
                for (int m : versions[v].names(e.getKey())) {
                    long code = 256L * e.getKey() + m;
                    f = 31 * f + versions[v].uses.stream().filter(u -> u / 65536 == code).count();
                    f = 31 * f + versions[v].uses.stream().filter(u -> u % 65536 == code).count();
                }
            }
        }
        return 31 * f + log.size();
    }
}
