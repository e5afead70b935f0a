import java.util.Arrays;

/**
 * A replayer of refactorings: changes of one version of a small program are recorded with their
 * meanings and replayed on another version, in which classes and members have other names or places.
 */
public final class RefactoringReplay {
    private static final int ADD_CLASS = 0;
    private static final int REMOVE_CLASS = 1;
    private static final int RENAME_CLASS = 2;
    private static final int SET_SUPER = 3;
    private static final int ADD_MEMBER = 4;
    private static final int REMOVE_MEMBER = 5;
    private static final int RENAME_MEMBER = 6;
    private static final int MOVE_MEMBER = 7;
    private static final int ADD_USE = 8;
    private static final int REMOVE_USE = 9;

    private static final int MADE = 0;
    private static final int EXISTS = 1;
    private static final int MISSING = 2;
    private static final int IN_USE = 3;
    private static final int RING = 4;
    private static final int CLASH = 5;
    private static final int TAKEN = 6;
    private static final int FULL = 9;
    private static final int MENDED = 100;
    private static final int NOT_SELECTED = -1;

    private static final int MAX_CLASSES = 12;
    private static final int MAX_MEMBERS = 40;
    private static final int MAX_USES = 60;
    private static final int MAX_CHANGES = 30;
    private static final int REPLACEMENTS = 25;
    private static final int NONE = -1;

    private final Program base;
    private final Program zero;
    private final Program one;
    private final Program trial;
    private final ChangeList changes;
    private final Change wanted;
    private final Commuting commuting;
    private final Matching matching;
    private final Replayer replayer;
    private final int[] outcomes;
    private int outcomeCount;

    public RefactoringReplay() {
        base = new Program();
        zero = new Program();
        one = new Program();
        trial = new Program();
        changes = new ChangeList();
        wanted = new Change();
        commuting = new Commuting();
        matching = new Matching();
        replayer = new Replayer();
        outcomes = new int[MAX_CHANGES];
        outcomeCount = 0;
    }

    // ---- changes

    public int addClass(int version, int a)
            throws IndexOutOfBoundsException, IllegalArgumentException, IllegalStateException {
        return change(version, ADD_CLASS, a, 0, 0, 0);
    }

    public int removeClass(int version, int a)
            throws IndexOutOfBoundsException, IllegalArgumentException, IllegalStateException {
        return change(version, REMOVE_CLASS, a, 0, 0, 0);
    }

    public int renameClass(int version, int a, int b)
            throws IndexOutOfBoundsException, IllegalArgumentException, IllegalStateException {
        return change(version, RENAME_CLASS, a, 0, b, 0);
    }

    public int setSuper(int version, int a, int b)
            throws IndexOutOfBoundsException, IllegalArgumentException, IllegalStateException {
        return change(version, SET_SUPER, a, 0, b, 0);
    }

    public int addMember(int version, int a, int m)
            throws IndexOutOfBoundsException, IllegalArgumentException, IllegalStateException {
        return change(version, ADD_MEMBER, a, m, 0, 0);
    }

    public int removeMember(int version, int a, int m)
            throws IndexOutOfBoundsException, IllegalArgumentException, IllegalStateException {
        return change(version, REMOVE_MEMBER, a, m, 0, 0);
    }

    public int renameMember(int version, int a, int m, int n)
            throws IndexOutOfBoundsException, IllegalArgumentException, IllegalStateException {
        return change(version, RENAME_MEMBER, a, m, 0, n);
    }

    public int moveMember(int version, int a, int m, int b)
            throws IndexOutOfBoundsException, IllegalArgumentException, IllegalStateException {
        return change(version, MOVE_MEMBER, a, m, b, 0);
    }

    public int addUse(int version, int a, int m, int b, int n)
            throws IndexOutOfBoundsException, IllegalArgumentException, IllegalStateException {
        return change(version, ADD_USE, a, m, b, n);
    }

    public int removeUse(int version, int a, int m, int b, int n)
            throws IndexOutOfBoundsException, IllegalArgumentException, IllegalStateException {
        return change(version, REMOVE_USE, a, m, b, n);
    }

    // ---- programs

    public int classes(int version) throws IndexOutOfBoundsException {
        return programOf(version).classCount();
    }

    public int className(int version, int i) throws IndexOutOfBoundsException {
        int name = programOf(version).nameByOrder(i);
        if (name == 0) {
            throw new IndexOutOfBoundsException("there is no such class");
        }
        return name;
    }

    public int superOf(int version, int a) throws IndexOutOfBoundsException, IllegalArgumentException {
        Program program = programOf(version);
        requireClassName(a);
        int slot = program.classAt(a);
        return slot < 0 ? -1 : program.superNameOf(slot);
    }

    public int members(int version, int a) throws IndexOutOfBoundsException, IllegalArgumentException {
        Program program = programOf(version);
        requireClassName(a);
        int slot = program.classAt(a);
        return slot < 0 ? -1 : program.namesIn(1 << slot);
    }

    public int uses(int version) throws IndexOutOfBoundsException {
        return programOf(version).useCount();
    }

    public boolean hasUse(int version, int a, int m, int b, int n)
            throws IndexOutOfBoundsException, IllegalArgumentException {
        Program program = programOf(version);
        requireClassName(a);
        requireMemberName(m);
        requireClassName(b);
        requireMemberName(n);
        return program.isUse(program.memberAt(a, m), program.memberAt(b, n));
    }

    public int copyVersion() {
        one.copyFrom(zero);
        return one.classCount();
    }

    public boolean areSame() {
        return zero.isSameAs(one);
    }

    // ---- log

    public int log() {
        return changes.count;
    }

    public int kindOf(int i) throws IndexOutOfBoundsException {
        requireChange(i);
        return changes.at(i).kind;
    }

    public int nameOf(int i, int which) throws IndexOutOfBoundsException {
        requireChange(i);
        Change change = changes.at(i);
        switch (which) {
            case 0:
                return change.a;
            case 1:
                return change.m;
            case 2:
                return change.b;
            case 3:
                return change.n;
            default:
                throw new IndexOutOfBoundsException("which is not from 0 to 3");
        }
    }

    public int clearLog() {
        int had = changes.count;
        changes.count = 0;
        base.copyFrom(zero);
        return had;
    }

    public int undo() throws IllegalStateException {
        if (changes.count == 0) {
            throw new IllegalStateException("the log is empty");
        }
        changes.count--;
        zero.copyFrom(base);
        zero.makeFirst(changes, changes.count);
        return changes.count;
    }

    public boolean commutes(int i) throws IndexOutOfBoundsException {
        requireNeighbours(i);
        return commuting.testAt(base, changes, i);
    }

    public boolean exchange(int i) throws IndexOutOfBoundsException {
        requireNeighbours(i);
        if (!commuting.testAt(base, changes, i)) {
            return false;
        }
        commuting.storeAt(changes, i);
        return true;
    }

    public int needs(int i) throws IndexOutOfBoundsException {
        requireChange(i);
        return commuting.needsOf(base, changes, i);
    }

    // ---- matching, replaying

    public int matchOfClass(int a) throws IllegalArgumentException {
        requireClassName(a);
        int slot = base.classAt(a);
        if (slot < 0) {
            return -1;
        }
        matching.find(base, one);
        return one.classNameAt(matching.classTo[slot]);
    }

    public int matchOfMember(int a, int m) throws IllegalArgumentException {
        requireClassName(a);
        requireMemberName(m);
        int slot = base.memberAt(a, m);
        if (slot < 0) {
            return -1;
        }
        matching.find(base, one);
        int partner = matching.memberTo[slot];
        return 256 * one.ownerNameOf(partner) + one.memberNameAt(partner);
    }

    public int replay(int selection, boolean mend) throws IllegalArgumentException {
        requireSelection(selection);
        int made = replayer.run(base, one, changes, selection, mend);
        outcomeCount = changes.count;
        System.arraycopy(replayer.outcomes, 0, outcomes, 0, MAX_CHANGES);
        return made;
    }

    public int forecast(int selection, boolean mend) throws IllegalArgumentException {
        requireSelection(selection);
        trial.copyFrom(one);
        return replayer.run(base, trial, changes, selection, mend);
    }

    public int outcome(int i) throws IndexOutOfBoundsException {
        if (i < 0 || i >= outcomeCount) {
            throw new IndexOutOfBoundsException("no replay had such a change");
        }
        return outcomes[i];
    }

    public long fingerprint() {
        long print = blend(43L, zero);
        print = blend(print, one);
        return 31L * print + changes.count;
    }

    // ---- helpers of the face

    private int change(int version, int kind, int a, int m, int b, int n) {
        Program program = programOf(version);
        wanted.set(kind, a, m, b, n);
        if (!wanted.hasLegalNames()) {
            throw new IllegalArgumentException("a name is illegal");
        }
        if (version == 0 && changes.count >= MAX_CHANGES) {
            throw new IllegalStateException("the log is full");
        }
        int fault = program.attempt(wanted);
        if (fault == MADE && version == 0) {
            changes.append(wanted);
        }
        return fault;
    }

    private Program programOf(int version) {
        if (version != 0 && version != 1) {
            throw new IndexOutOfBoundsException("version is not 0 or 1");
        }
        return version == 0 ? zero : one;
    }

    private static void requireClassName(int name) {
        if (!isClassName(name)) {
            throw new IllegalArgumentException("a class name is not from A to Z");
        }
    }

    private static void requireMemberName(int name) {
        if (!isMemberName(name)) {
            throw new IllegalArgumentException("a member name is not from a to z");
        }
    }

    private void requireChange(int i) {
        if (i < 0 || i >= changes.count) {
            throw new IndexOutOfBoundsException("there is no such change");
        }
    }

    private void requireNeighbours(int i) {
        if (i < 0 || i >= changes.count - 1) {
            throw new IndexOutOfBoundsException("there is no such change, or none behind it");
        }
    }

    private void requireSelection(int selection) {
        int all = (1 << changes.count) - 1;
        if (selection != -1 && (selection & ~all) != 0) {
            throw new IllegalArgumentException("the selection has a bit without a change");
        }
    }

    private static long blend(long start, Program program) {
        long print = start;
        for (int name = 'A'; name <= 'Z'; name++) {
            int slot = program.classAt(name);
            if (slot >= 0) {
                print = 31L * print + name;
                print = 31L * print + program.superNameOf(slot);
                print = 31L * print + program.namesIn(1 << slot);
                print = blendMembers(print, program, slot);
            }
        }
        return print;
    }

    private static long blendMembers(long start, Program program, int slot) {
        long print = start;
        for (int name = 'a'; name <= 'z'; name++) {
            int member = program.memberIn(slot, name);
            if (member >= 0) {
                print = 31L * print + Long.bitCount(program.used[member]);
                print = 31L * print + program.usersOf(member);
            }
        }
        return print;
    }

    private static boolean isClassName(int name) {
        return name >= 'A' && name <= 'Z';
    }

    private static boolean isMemberName(int name) {
        return name >= 'a' && name <= 'z';
    }

    /** One change: its kind and the names that were given, 0 for those that its kind does not have. */
    private static final class Change {
        int kind;
        int a;
        int m;
        int b;
        int n;

        void set(int newKind, int newA, int newM, int newB, int newN) {
            kind = newKind;
            a = newA;
            m = newM;
            b = newB;
            n = newN;
        }

        void copyFrom(Change other) {
            set(other.kind, other.a, other.m, other.b, other.n);
        }

        boolean hasTwoMembers() {
            return kind == ADD_USE || kind == REMOVE_USE;
        }

        boolean hasLegalNames() {
            if (!isClassName(a)) {
                return false;
            }
            if (kind >= ADD_MEMBER && !isMemberName(m)) {
                return false;
            }
            boolean needsB = kind == RENAME_CLASS || kind == MOVE_MEMBER || hasTwoMembers()
                    || kind == SET_SUPER && b != 0;
            if (needsB && !isClassName(b)) {
                return false;
            }
            boolean needsN = kind == RENAME_MEMBER || hasTwoMembers();
            return !needsN || isMemberName(n);
        }

        void carryBack(Change through) {
            if (through.kind == RENAME_CLASS) {
                replaceClass(through.b, through.a);
            } else if (through.kind == RENAME_MEMBER) {
                replaceMember(through.a, through.n, through.a, through.m);
            } else if (through.kind == MOVE_MEMBER) {
                replaceMember(through.b, through.m, through.a, through.m);
            }
        }

        void carryForward(Change through) {
            if (through.kind == RENAME_CLASS) {
                replaceClass(through.a, through.b);
            } else if (through.kind == RENAME_MEMBER) {
                replaceMember(through.a, through.m, through.a, through.n);
            } else if (through.kind == MOVE_MEMBER) {
                replaceMember(through.a, through.m, through.b, through.m);
            }
        }

        // A name that the change itself gives (a of kind 0, b of kind 2) names no existing class.
        private void replaceClass(int from, int to) {
            if (kind != ADD_CLASS && a == from) {
                a = to;
            }
            if (kind != RENAME_CLASS && b == from) {
                b = to;
            }
        }

        // The pair (a, m) of kind 4 is a member that does not exist yet.
        private void replaceMember(int fromClass, int fromMember, int toClass, int toMember) {
            if (kind != ADD_MEMBER && a == fromClass && m == fromMember) {
                a = toClass;
                m = toMember;
            }
            if (hasTwoMembers() && b == fromClass && n == fromMember) {
                b = toClass;
                n = toMember;
            }
        }

        void advanceNewName() {
            if (kind == RENAME_CLASS) {
                b = b == 'Z' ? 'A' : b + 1;
            } else if (kind == ADD_MEMBER) {
                m = m == 'z' ? 'a' : m + 1;
            } else if (kind == RENAME_MEMBER) {
                n = n == 'z' ? 'a' : n + 1;
            }
        }
    }

    /** A row of changes whose places are made once and used again. */
    private static final class ChangeList {
        final Change[] rows;
        int count;

        ChangeList() {
            rows = new Change[MAX_CHANGES];
            for (int i = 0; i < MAX_CHANGES; i++) {
                rows[i] = new Change();
            }
            count = 0;
        }

        // Callers look at the index against count before; the clamp keeps the machine from throwing.
        Change at(int i) {
            return rows[Math.max(0, Math.min(i, MAX_CHANGES - 1))];
        }

        void append(Change change) {
            if (count < MAX_CHANGES) {
                rows[count].copyFrom(change);
                count++;
            }
        }

        void copyFrom(ChangeList other) {
            count = other.count;
            for (int i = 0; i < MAX_CHANGES; i++) {
                rows[i].copyFrom(other.rows[i]);
            }
        }
    }

    /**
     * A state of a program. A class or member keeps its slot when it is renamed or moved, so that
     * superclasses, uses and matches stay with it.
     */
    private static final class Program {
        final int[] classNames;
        final int[] supers;
        final int[] above;
        final int[] memberNames;
        final int[] owners;
        final long[] used;

        Program() {
            classNames = new int[MAX_CLASSES];
            supers = new int[MAX_CLASSES];
            above = new int[MAX_CLASSES];
            memberNames = new int[MAX_MEMBERS];
            owners = new int[MAX_MEMBERS];
            used = new long[MAX_MEMBERS];
            Arrays.fill(supers, NONE);
            Arrays.fill(owners, NONE);
        }

        void copyFrom(Program other) {
            System.arraycopy(other.classNames, 0, classNames, 0, MAX_CLASSES);
            System.arraycopy(other.supers, 0, supers, 0, MAX_CLASSES);
            System.arraycopy(other.above, 0, above, 0, MAX_CLASSES);
            System.arraycopy(other.memberNames, 0, memberNames, 0, MAX_MEMBERS);
            System.arraycopy(other.owners, 0, owners, 0, MAX_MEMBERS);
            System.arraycopy(other.used, 0, used, 0, MAX_MEMBERS);
        }

        /** Makes the change, or leaves everything as it is and returns the fault. */
        int attempt(Change change) {
            switch (change.kind) {
                case ADD_CLASS:
                    return putClass(change.a);
                case REMOVE_CLASS:
                    return dropClass(change.a);
                case RENAME_CLASS:
                    return giveClassName(change.a, change.b);
                case SET_SUPER:
                    return giveSuper(change.a, change.b);
                case ADD_MEMBER:
                    return putMember(change.a, change.m);
                case REMOVE_MEMBER:
                    return dropMember(change.a, change.m);
                case RENAME_MEMBER:
                    return giveMemberName(change.a, change.m, change.n);
                case MOVE_MEMBER:
                    return giveOwner(change.a, change.m, change.b);
                case ADD_USE:
                    return putUse(memberAt(change.a, change.m), memberAt(change.b, change.n));
                default:
                    return dropUse(memberAt(change.a, change.m), memberAt(change.b, change.n));
            }
        }

        void makeFirst(ChangeList list, int howMany) {
            for (int i = 0; i < howMany && i < MAX_CHANGES; i++) {
                attempt(list.at(i));
            }
        }

        private int putClass(int a) {
            if (classAt(a) >= 0) {
                return EXISTS;
            }
            int slot = freeSlot(classNames);
            if (slot < 0) {
                return FULL;
            }
            classNames[slot] = a;
            return MADE;
        }

        private int dropClass(int a) {
            int slot = classAt(a);
            if (slot < 0) {
                return MISSING;
            }
            if (namesIn(1 << slot) != 0 || below(slot) != 0) {
                return IN_USE;
            }
            classNames[slot] = 0;
            supers[slot] = NONE;
            above[slot] = 0;
            return MADE;
        }

        private int giveClassName(int a, int b) {
            int slot = classAt(a);
            if (slot < 0) {
                return MISSING;
            }
            if (classAt(b) >= 0) {
                return EXISTS;
            }
            classNames[slot] = b;
            return MADE;
        }

        private int giveSuper(int a, int b) {
            int slot = classAt(a);
            int parent = classAt(b);
            if (slot < 0 || b != 0 && parent < 0) {
                return MISSING;
            }
            if (parent >= 0) {
                int lower = 1 << slot | below(slot);
                if ((lower >> parent & 1) != 0) {
                    return RING;
                }
                int upper = 1 << parent | above[parent];
                if ((namesIn(lower) & namesIn(upper)) != 0) {
                    return CLASH;
                }
            }
            supers[slot] = parent;
            traceAncestors();
            return MADE;
        }

        private int putMember(int a, int m) {
            int slot = classAt(a);
            if (slot < 0) {
                return MISSING;
            }
            if (holds(1 << slot, m, NONE)) {
                return EXISTS;
            }
            if (holds(line(slot), m, NONE)) {
                return CLASH;
            }
            int member = freeSlot(memberNames);
            if (member < 0) {
                return FULL;
            }
            memberNames[member] = m;
            owners[member] = slot;
            return MADE;
        }

        private int dropMember(int a, int m) {
            int member = memberAt(a, m);
            if (member < 0) {
                return MISSING;
            }
            int byItself = isUse(member, member) ? 1 : 0;
            if (usersOf(member) > byItself) {
                return IN_USE;
            }
            memberNames[member] = 0;
            owners[member] = NONE;
            used[member] = 0L;
            return MADE;
        }

        private int giveMemberName(int a, int m, int n) {
            int member = memberAt(a, m);
            int slot = classAt(a);
            if (member < 0 || slot < 0) {
                return MISSING;
            }
            if (holds(line(slot), n, NONE)) {
                return CLASH;
            }
            memberNames[member] = n;
            return MADE;
        }

        private int giveOwner(int a, int m, int b) {
            int member = memberAt(a, m);
            int target = classAt(b);
            if (member < 0 || target < 0) {
                return MISSING;
            }
            if (owners[member] == target) {
                return EXISTS;
            }
            if (holds(line(target), m, member)) {
                return CLASH;
            }
            owners[member] = target;
            return MADE;
        }

        private int putUse(int user, int target) {
            if (user < 0 || target < 0) {
                return MISSING;
            }
            if (isUse(user, target)) {
                return EXISTS;
            }
            if (useCount() >= MAX_USES) {
                return FULL;
            }
            used[user] |= 1L << target;
            return MADE;
        }

        private int dropUse(int user, int target) {
            if (!isUse(user, target)) {
                return MISSING;
            }
            used[user] &= ~(1L << target);
            return MADE;
        }

        int classAt(int name) {
            for (int slot = 0; slot < MAX_CLASSES && name != 0; slot++) {
                if (classNames[slot] == name) {
                    return slot;
                }
            }
            return NONE;
        }

        int memberAt(int className, int name) {
            int slot = classAt(className);
            return slot < 0 ? NONE : memberIn(slot, name);
        }

        int memberIn(int slot, int name) {
            for (int member = 0; member < MAX_MEMBERS; member++) {
                if (owners[member] == slot && memberNames[member] == name) {
                    return member;
                }
            }
            return NONE;
        }

        boolean isUse(int user, int target) {
            return user >= 0 && user < MAX_MEMBERS && target >= 0 && (used[user] >> target & 1L) != 0L;
        }

        int usersOf(int member) {
            int users = 0;
            for (int user = 0; user < MAX_MEMBERS; user++) {
                users += (int) (used[user] >> member & 1L);
            }
            return users;
        }

        int useCount() {
            int sum = 0;
            for (int user = 0; user < MAX_MEMBERS; user++) {
                sum += Long.bitCount(used[user]);
            }
            return sum;
        }

        int classCount() {
            int sum = 0;
            for (int slot = 0; slot < MAX_CLASSES; slot++) {
                sum += classNames[slot] == 0 ? 0 : 1;
            }
            return sum;
        }

        int memberCount() {
            int sum = 0;
            for (int member = 0; member < MAX_MEMBERS; member++) {
                sum += memberNames[member] == 0 ? 0 : 1;
            }
            return sum;
        }

        /** The name of the i-th class in the order of names, 0 if there is none. */
        int nameByOrder(int i) {
            int left = i;
            for (int name = 'A'; name <= 'Z' && left >= 0; name++) {
                if (classAt(name) >= 0) {
                    if (left == 0) {
                        return name;
                    }
                    left--;
                }
            }
            return 0;
        }

        /** The name of the class in a slot, 0 if there is no such slot or nothing in it. */
        int classNameAt(int slot) {
            return slot < 0 || slot >= MAX_CLASSES ? 0 : classNames[slot];
        }

        int memberNameAt(int member) {
            return member < 0 || member >= MAX_MEMBERS ? 0 : memberNames[member];
        }

        int superNameOf(int slot) {
            int parent = slot < 0 || slot >= MAX_CLASSES ? NONE : supers[slot];
            return parent < 0 || parent >= MAX_CLASSES ? 0 : classNames[parent];
        }

        int ownerNameOf(int member) {
            int slot = member < 0 || member >= MAX_MEMBERS ? NONE : owners[member];
            return slot < 0 || slot >= MAX_CLASSES ? 0 : classNames[slot];
        }

        /** The set of the names of the members whose classes are in a set of slots. */
        int namesIn(int slots) {
            int names = 0;
            for (int member = 0; member < MAX_MEMBERS; member++) {
                if (owners[member] >= 0 && (slots >> owners[member] & 1) != 0) {
                    names |= 1 << memberNames[member] - 'a';
                }
            }
            return names;
        }

        private boolean holds(int slots, int name, int except) {
            for (int member = 0; member < MAX_MEMBERS; member++) {
                if (member != except && memberNames[member] == name
                        && owners[member] >= 0 && (slots >> owners[member] & 1) != 0) {
                    return true;
                }
            }
            return false;
        }

        /** The class itself, its ancestors and its descendants: no name may be twice among their members. */
        private int line(int slot) {
            return 1 << slot | above[slot] | below(slot);
        }

        private int below(int slot) {
            int slots = 0;
            for (int other = 0; other < MAX_CLASSES; other++) {
                slots |= (above[other] >> slot & 1) << other;
            }
            return slots;
        }

        private void traceAncestors() {
            for (int slot = 0; slot < MAX_CLASSES; slot++) {
                int slots = 0;
                int parent = supers[slot];
                for (int steps = 0; steps < MAX_CLASSES && parent >= 0 && parent < MAX_CLASSES; steps++) {
                    slots |= 1 << parent;
                    parent = supers[parent];
                }
                above[slot] = slots;
            }
        }

        private static int freeSlot(int[] names) {
            for (int slot = 0; slot < names.length; slot++) {
                if (names[slot] == 0) {
                    return slot;
                }
            }
            return NONE;
        }

        // Every name of this state is looked up in the other one; equal counts make that hold both ways.
        boolean isSameAs(Program other) {
            return classCount() == other.classCount() && memberCount() == other.memberCount()
                    && useCount() == other.useCount()
                    && hasClassesIn(other) && hasMembersIn(other) && hasUsesIn(other);
        }

        private boolean hasClassesIn(Program other) {
            for (int slot = 0; slot < MAX_CLASSES; slot++) {
                if (classNames[slot] != 0) {
                    int twin = other.classAt(classNames[slot]);
                    if (twin < 0 || superNameOf(slot) != other.superNameOf(twin)) {
                        return false;
                    }
                }
            }
            return true;
        }

        private boolean hasMembersIn(Program other) {
            for (int member = 0; member < MAX_MEMBERS; member++) {
                if (memberNames[member] != 0 && twinOf(member, other) < 0) {
                    return false;
                }
            }
            return true;
        }

        private boolean hasUsesIn(Program other) {
            for (int user = 0; user < MAX_MEMBERS; user++) {
                for (int target = 0; target < MAX_MEMBERS && used[user] != 0L; target++) {
                    if (isUse(user, target) && !other.isUse(twinOf(user, other), twinOf(target, other))) {
                        return false;
                    }
                }
            }
            return true;
        }

        private int twinOf(int member, Program other) {
            int slot = other.classAt(ownerNameOf(member));
            return slot < 0 ? NONE : other.memberIn(slot, memberNames[member]);
        }
    }

    /** Tells which changes commute, and with that what a change needs. */
    private static final class Commuting {
        final Program walk;
        final Program straight;
        final Program crossed;
        final Change early;
        final Change late;
        final ChangeList settled;
        final ChangeList tried;

        Commuting() {
            walk = new Program();
            straight = new Program();
            crossed = new Program();
            early = new Change();
            late = new Change();
            settled = new ChangeList();
            tried = new ChangeList();
        }

        boolean testAt(Program base, ChangeList list, int i) {
            walk.copyFrom(base);
            walk.makeFirst(list, i);
            return test(list, i);
        }

        // walk must be the state before change i; leaves d' in early and c' in late.
        private boolean test(ChangeList list, int i) {
            Change first = list.at(i);
            Change second = list.at(i + 1);
            early.copyFrom(second);
            early.carryBack(first);
            late.copyFrom(first);
            late.carryForward(early);
            crossed.copyFrom(walk);
            if (crossed.attempt(early) != MADE || crossed.attempt(late) != MADE) {
                return false;
            }
            straight.copyFrom(walk);
            straight.attempt(first);
            straight.attempt(second);
            return crossed.isSameAs(straight);
        }

        void storeAt(ChangeList list, int i) {
            list.at(i).copyFrom(early);
            list.at(i + 1).copyFrom(late);
        }

        int needsOf(Program base, ChangeList list, int i) {
            int needed = 0;
            int blockSize = 1;
            settled.copyFrom(list);
            for (int j = i - 1; j >= 0; j--) {
                if (!movesBehind(base, j, blockSize)) {
                    needed |= 1 << j;
                    blockSize++;
                }
            }
            return needed;
        }

        // The block stands right behind change j. Works on a second list, as a failure takes all steps back.
        private boolean movesBehind(Program base, int j, int blockSize) {
            tried.copyFrom(settled);
            walk.copyFrom(base);
            walk.makeFirst(tried, j);
            for (int place = j; place < j + blockSize; place++) {
                if (!test(tried, place)) {
                    return false;
                }
                storeAt(tried, place);
                walk.attempt(early);
            }
            settled.copyFrom(tried);
            return true;
        }
    }

    /** Pairs of classes and of members: the slots of one program to those of another, and back. */
    private static final class Matching {
        final int[] classTo;
        final int[] classFrom;
        final int[] memberTo;
        final int[] memberFrom;

        Matching() {
            classTo = new int[MAX_CLASSES];
            classFrom = new int[MAX_CLASSES];
            memberTo = new int[MAX_MEMBERS];
            memberFrom = new int[MAX_MEMBERS];
        }

        void find(Program base, Program other) {
            Arrays.fill(classTo, NONE);
            Arrays.fill(classFrom, NONE);
            Arrays.fill(memberTo, NONE);
            Arrays.fill(memberFrom, NONE);
            joinClassesByName(base, other);
            joinClassesByMembers(base, other);
            joinMembersOfClasses(base, other);
            joinLoneMembers(base, other);
        }

        private void joinClassesByName(Program base, Program other) {
            for (int slot = 0; slot < MAX_CLASSES; slot++) {
                joinClasses(slot, other.classAt(base.classNames[slot]));
            }
        }

        private void joinClassesByMembers(Program base, Program other) {
            for (int name = 'A'; name <= 'Z'; name++) {
                int slot = base.classAt(name);
                if (slot >= 0 && classTo[slot] < 0) {
                    joinClasses(slot, closestTo(base.namesIn(1 << slot), other));
                }
            }
        }

        private int closestTo(int names, Program other) {
            int closest = NONE;
            int most = 0;
            for (int name = 'A'; name <= 'Z'; name++) {
                int slot = other.classAt(name);
                if (slot >= 0 && classFrom[slot] < 0) {
                    int common = Integer.bitCount(names & other.namesIn(1 << slot));
                    if (common > most) {
                        most = common;
                        closest = slot;
                    }
                }
            }
            return 2 * most >= Integer.bitCount(names) ? closest : NONE;
        }

        private void joinMembersOfClasses(Program base, Program other) {
            for (int member = 0; member < MAX_MEMBERS; member++) {
                int slot = base.owners[member];
                int partner = slot < 0 || slot >= MAX_CLASSES ? NONE : classTo[slot];
                if (partner >= 0) {
                    joinMembers(member, other.memberIn(partner, base.memberNames[member]));
                }
            }
        }

        private void joinLoneMembers(Program base, Program other) {
            for (int name = 'A'; name <= 'Z'; name++) {
                int slot = base.classAt(name);
                for (int memberName = 'a'; memberName <= 'z' && slot >= 0; memberName++) {
                    int member = base.memberIn(slot, memberName);
                    if (member >= 0 && memberTo[member] < 0) {
                        joinMembers(member, onlyFree(other, memberName));
                    }
                }
            }
        }

        private int onlyFree(Program other, int name) {
            int found = NONE;
            int count = 0;
            for (int member = 0; member < MAX_MEMBERS; member++) {
                if (other.memberNames[member] == name && memberFrom[member] < 0) {
                    found = member;
                    count++;
                }
            }
            return count == 1 ? found : NONE;
        }

        void joinClasses(int slot, int partner) {
            if (slot >= 0 && slot < MAX_CLASSES && partner >= 0 && partner < MAX_CLASSES) {
                classTo[slot] = partner;
                classFrom[partner] = slot;
            }
        }

        void joinMembers(int member, int partner) {
            if (member >= 0 && member < MAX_MEMBERS && partner >= 0 && partner < MAX_MEMBERS) {
                memberTo[member] = partner;
                memberFrom[partner] = member;
            }
        }

        void partClass(int slot) {
            if (slot >= 0 && slot < MAX_CLASSES) {
                int partner = classTo[slot];
                if (partner >= 0 && partner < MAX_CLASSES) {
                    classFrom[partner] = NONE;
                }
                classTo[slot] = NONE;
            }
        }

        void partMember(int member) {
            if (member >= 0 && member < MAX_MEMBERS) {
                int partner = memberTo[member];
                if (partner >= 0 && partner < MAX_MEMBERS) {
                    memberFrom[partner] = NONE;
                }
                memberTo[member] = NONE;
            }
        }
    }

    /** Replays a log; its shadow follows version 0 from the base, so that names mean the right things. */
    private static final class Replayer {
        final Program shadow;
        final Matching pairs;
        final Change plan;
        final int[] outcomes;

        Replayer() {
            shadow = new Program();
            pairs = new Matching();
            plan = new Change();
            outcomes = new int[MAX_CHANGES];
        }

        int run(Program base, Program target, ChangeList list, int selection, boolean mend) {
            int made = 0;
            shadow.copyFrom(base);
            pairs.find(base, target);
            for (int i = 0; i < list.count && i < MAX_CHANGES; i++) {
                Change change = list.at(i);
                int result = NOT_SELECTED;
                if ((selection >> i & 1) != 0) {
                    result = translate(change, target) ? tryPlan(target, mend) : MISSING;
                }
                boolean stands = result == MADE || result == MENDED;
                follow(change, target, stands);
                made += stands ? 1 : 0;
                outcomes[i] = result;
            }
            return made;
        }

        // Turns the change into the names of the target; false if something that must exist has no match.
        private boolean translate(Change change, Program target) {
            plan.copyFrom(change);
            switch (change.kind) {
                case ADD_CLASS:
                    return true;
                case REMOVE_CLASS:
                case RENAME_CLASS:
                case ADD_MEMBER:
                    plan.a = classNameOf(change.a, target);
                    return plan.a != 0;
                case SET_SUPER:
                    plan.a = classNameOf(change.a, target);
                    plan.b = classNameOf(change.b, target);
                    return plan.a != 0 && (change.b == 0 || plan.b != 0);
                case REMOVE_MEMBER:
                case RENAME_MEMBER:
                    return translateUser(change, target);
                case MOVE_MEMBER:
                    plan.b = classNameOf(change.b, target);
                    return plan.b != 0 && translateUser(change, target);
                default:
                    return translateUser(change, target) && translateUsed(change, target);
            }
        }

        private boolean translateUser(Change change, Program target) {
            int partner = memberPartner(change.a, change.m);
            plan.a = target.ownerNameOf(partner);
            plan.m = target.memberNameAt(partner);
            return partner >= 0;
        }

        private boolean translateUsed(Change change, Program target) {
            int partner = memberPartner(change.b, change.n);
            plan.b = target.ownerNameOf(partner);
            plan.n = target.memberNameAt(partner);
            return partner >= 0;
        }

        private int classNameOf(int name, Program target) {
            int slot = shadow.classAt(name);
            return slot < 0 ? 0 : target.classNameAt(pairs.classTo[slot]);
        }

        private int memberPartner(int className, int name) {
            int member = shadow.memberAt(className, name);
            return member < 0 ? NONE : pairs.memberTo[member];
        }

        private int tryPlan(Program target, boolean mend) {
            int fault = target.attempt(plan);
            if (fault == MADE) {
                return MADE;
            }
            if (countsAsMade(fault)) {
                return isTaken(target) ? TAKEN : MADE;
            }
            return mend && isMendable(fault) ? tryOtherNames(target, fault) : fault;
        }

        private boolean countsAsMade(int fault) {
            switch (plan.kind) {
                case ADD_CLASS:
                case ADD_MEMBER:
                case MOVE_MEMBER:
                case ADD_USE:
                    return fault == EXISTS;
                case RENAME_CLASS:
                    return plan.a == plan.b;
                case RENAME_MEMBER:
                    return plan.m == plan.n;
                default:
                    return false;
            }
        }

        private boolean isTaken(Program target) {
            if (plan.kind == ADD_CLASS) {
                int slot = target.classAt(plan.a);
                return slot >= 0 && pairs.classFrom[slot] >= 0;
            }
            if (plan.kind == ADD_MEMBER) {
                int member = target.memberAt(plan.a, plan.m);
                return member >= 0 && pairs.memberFrom[member] >= 0;
            }
            return false;
        }

        private boolean isMendable(int fault) {
            return plan.kind == RENAME_CLASS && fault == EXISTS
                    || (plan.kind == ADD_MEMBER || plan.kind == RENAME_MEMBER) && fault == CLASH;
        }

        private int tryOtherNames(Program target, int firstFault) {
            for (int replaced = 0; replaced < REPLACEMENTS; replaced++) {
                plan.advanceNewName();
                int fault = target.attempt(plan);
                if (fault == MADE) {
                    return MENDED;
                }
                if (fault != EXISTS && fault != CLASH) {
                    return fault;
                }
            }
            return firstFault;
        }

        // Makes the change in the shadow; what it adds is matched only if the change stands in the target.
        private void follow(Change change, Program target, boolean stands) {
            if (change.kind == REMOVE_CLASS) {
                pairs.partClass(shadow.classAt(change.a));
            } else if (change.kind == REMOVE_MEMBER) {
                pairs.partMember(shadow.memberAt(change.a, change.m));
            }
            shadow.attempt(change);
            if (stands && change.kind == ADD_CLASS) {
                pairs.joinClasses(shadow.classAt(change.a), target.classAt(plan.a));
            } else if (stands && change.kind == ADD_MEMBER) {
                pairs.joinMembers(shadow.memberAt(change.a, change.m), target.memberAt(plan.a, plan.m));
            }
        }
    }
}
