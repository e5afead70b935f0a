/** Promises 1 to 19: a new object, the changes and their faults, and what a version tells of itself. */
public final class ProgramPromisesTest {
    public static void main(String[] args) {
        newObject();
        addClass();
        removeClass();
        renameClass();
        setSuper();
        setSuperClash();
        addMember();
        removeMember();
        renameMember();
        moveMember();
        addUse();
        removeUse();
        wrongChanges();
        orderOfExceptions();
        classesAndNames();
        superOf();
        members();
        uses();
        hasUse();
        copyVersion();
        areSame();
        Due.end();
    }

    private static void newObject() {
        RefactoringReplay x = new RefactoringReplay();
        for (int v = 0; v < 2; v++) {
            Due.same("P1 classes", x.classes(v), 0);
            Due.same("P1 uses", x.uses(v), 0);
        }
        Due.same("P1 log", x.log(), 0);
        Due.same("P1 areSame", x.areSame(), true);
        RefactoringReplay y = new RefactoringReplay();
        y.addClass(0, 'A');
        Due.same("P1 objects have nothing in common", x.classes(0), 0);
    }

    private static void addClass() {
        for (int v = 0; v < 2; v++) {
            RefactoringReplay x = new RefactoringReplay();
            for (int i = 0; i < 12; i++) {
                Due.same("P2 class " + i, x.addClass(v, i == 11 ? 'Z' : 'A' + i), 0);
            }
            Due.same("P2 there is one, and there are 12", x.addClass(v, 'Z'), 1);
            Due.same("P2 there are 12", x.addClass(v, 'Y'), 9);
            Due.same("P2 classes", x.classes(v), 12);
            Due.same("P2 classes of the other version", x.classes(1 - v), 0);
            Due.same("P2 log", x.log(), v == 0 ? 12 : 0);
            Due.same("P2 a new class has no superclass", x.superOf(v, 'Z'), 0);
            Due.same("P2 a new class has no members", x.members(v, 'Z'), 0);
        }
    }

    private static void removeClass() {
        RefactoringReplay x = new RefactoringReplay();
        Due.same("P3 no class", x.removeClass(1, 'A'), 2);
        x.addClass(1, 'A');
        x.addClass(1, 'B');
        x.setSuper(1, 'B', 'A');
        Due.same("P3 is a superclass", x.removeClass(1, 'A'), 3);
        Due.same("P3 has a superclass", x.removeClass(1, 'B'), 0);
        Due.same("P3 is a superclass no more", x.addMember(1, 'A', 'a'), 0);
        Due.same("P3 has a member", x.removeClass(1, 'A'), 3);
        x.removeMember(1, 'A', 'a');
        Due.same("P3 has a member no more", x.removeClass(1, 'A'), 0);
        Due.same("P3 classes", x.classes(1), 0);
        x.addClass(1, 'C');
        x.addClass(1, 'D');
        Due.same("P3 a place is new again", x.superOf(1, 'D') + x.superOf(1, 'C'), 0);
        x.addClass(0, 'A');
        x.removeClass(0, 'A');
        Due.same("P3 is recorded", x.kindOf(1), 1);
    }

    private static void renameClass() {
        RefactoringReplay x = new RefactoringReplay();
        Due.same("P4 no class", x.renameClass(0, 'A', 'A'), 2);
        x.addClass(0, 'A');
        x.addClass(0, 'B');
        x.addMember(0, 'A', 'a');
        x.addUse(0, 'A', 'a', 'A', 'a');
        x.setSuper(0, 'B', 'A');
        Due.same("P4 to itself", x.renameClass(0, 'A', 'A'), 1);
        Due.same("P4 there is one", x.renameClass(0, 'A', 'B'), 1);
        Due.same("P4 made", x.renameClass(0, 'A', 'Z'), 0);
        Due.same("P4 the old name", x.members(0, 'A'), -1);
        Due.same("P4 members stay", x.members(0, 'Z'), 1);
        Due.same("P4 the superclass stays", x.superOf(0, 'B'), 'Z');
        Due.same("P4 uses stay", x.hasUse(0, 'Z', 'a', 'Z', 'a'), true);
        Due.same("P4 the old name is free", x.addClass(0, 'A'), 0);
    }

    private static void setSuper() {
        RefactoringReplay x = new RefactoringReplay();
        Due.same("P5 no class a", x.setSuper(1, 'A', 0), 2);
        x.addClass(1, 'A');
        Due.same("P5 no class b", x.setSuper(1, 'A', 'B'), 2);
        Due.same("P5 itself", x.setSuper(1, 'A', 'A'), 4);
        x.addClass(1, 'B');
        x.addClass(1, 'C');
        Due.same("P5 B under A", x.setSuper(1, 'B', 'A'), 0);
        Due.same("P5 C under B", x.setSuper(1, 'C', 'B'), 0);
        Due.same("P5 C under B again", x.setSuper(1, 'C', 'B'), 0);
        Due.same("P5 a child", x.setSuper(1, 'A', 'B'), 4);
        Due.same("P5 a descendant", x.setSuper(1, 'A', 'C'), 4);
        Due.same("P5 C under A", x.setSuper(1, 'C', 'A'), 0);
        Due.same("P5 superOf", x.superOf(1, 'C'), 'A');
        Due.same("P5 a sister", x.setSuper(1, 'B', 'C'), 0);
        Due.same("P5 none", x.setSuper(1, 'B', 0), 0);
        Due.same("P5 none again", x.setSuper(1, 'B', 0), 0);
        Due.same("P5 A under B now", x.setSuper(1, 'A', 'B'), 0);
    }

    private static void setSuperClash() {
        RefactoringReplay x = new RefactoringReplay();
        for (int name = 'A'; name <= 'D'; name++) {
            x.addClass(0, name);
        }
        x.setSuper(0, 'B', 'A');
        x.setSuper(0, 'D', 'C');
        x.addMember(0, 'A', 'a');
        x.addMember(0, 'D', 'a');
        Due.same("P5 a descendant and an ancestor have a", x.setSuper(0, 'C', 'B'), 5);
        Due.same("P5 itself and an ancestor have a", x.setSuper(0, 'D', 'B'), 5);
        Due.same("P5 itself and b have a", x.setSuper(0, 'D', 'A'), 5);
        Due.same("P5 a descendant and b have a", x.setSuper(0, 'C', 'A'), 5);
        Due.same("P5 a descendant of b has it, which is free", x.setSuper(0, 'B', 'C'), 0);
        Due.same("P5 the ring comes ahead of the clash", x.setSuper(0, 'C', 'D'), 4);
    }

    private static void addMember() {
        RefactoringReplay x = new RefactoringReplay();
        Due.same("P6 no class", x.addMember(1, 'A', 'a'), 2);
        x.addClass(1, 'A');
        x.addClass(1, 'B');
        x.addClass(1, 'C');
        x.addClass(1, 'D');
        x.setSuper(1, 'B', 'A');
        x.setSuper(1, 'C', 'B');
        x.setSuper(1, 'D', 'B');
        Due.same("P6 made", x.addMember(1, 'A', 'a'), 0);
        Due.same("P6 a has it", x.addMember(1, 'A', 'a'), 1);
        Due.same("P6 an ancestor has it", x.addMember(1, 'C', 'a'), 5);
        Due.same("P6 z", x.addMember(1, 'C', 'z'), 0);
        Due.same("P6 a descendant has it", x.addMember(1, 'A', 'z'), 5);
        Due.same("P6 a sister has it", x.addMember(1, 'D', 'z'), 0);
        Due.same("P6 members", x.members(1, 'C'), 1 << 25);
        for (int i = 3; i < 40; i++) {
            int owner = i < 27 ? 'E' : 'F';
            x.addClass(1, owner);
            Due.same("P6 member " + i, x.addMember(1, owner, 'a' + (i - 3) % 24), 0);
        }
        Due.same("P6 there are 40", x.addMember(1, 'F', 'z'), 9);
        Due.same("P6 there are 40, and a has it", x.addMember(1, 'F', 'a'), 1);
        Due.same("P6 there are 40, and an ancestor has it", x.addMember(1, 'B', 'a'), 5);
        x.removeMember(1, 'A', 'a');
        Due.same("P6 there are 39", x.addMember(1, 'F', 'z'), 0);
    }

    private static void removeMember() {
        RefactoringReplay x = new RefactoringReplay();
        Due.same("P7 no class", x.removeMember(1, 'A', 'a'), 2);
        x.addClass(1, 'A');
        x.addClass(1, 'B');
        Due.same("P7 no member", x.removeMember(1, 'A', 'a'), 2);
        x.addMember(1, 'A', 'a');
        x.addMember(1, 'B', 'b');
        Due.same("P7 not of this class", x.removeMember(1, 'B', 'a'), 2);
        x.addUse(1, 'A', 'a', 'B', 'b');
        x.addUse(1, 'A', 'a', 'A', 'a');
        x.addUse(1, 'B', 'b', 'B', 'b');
        Due.same("P7 another one uses it", x.removeMember(1, 'B', 'b'), 3);
        Due.same("P7 it uses itself", x.removeMember(1, 'A', 'a'), 0);
        Due.same("P7 its uses are removed", x.uses(1), 1);
        x.addMember(1, 'A', 'c');
        Due.same("P7 a new one has no uses", x.hasUse(1, 'A', 'c', 'B', 'b'), false);
        Due.same("P7 it is used no more", x.removeMember(1, 'B', 'b'), 0);
        Due.same("P7 uses", x.uses(1), 0);
    }

    private static void renameMember() {
        RefactoringReplay x = new RefactoringReplay();
        Due.same("P8 no class", x.renameMember(0, 'A', 'a', 'b'), 2);
        x.addClass(0, 'A');
        x.addClass(0, 'B');
        x.addClass(0, 'C');
        x.setSuper(0, 'B', 'A');
        x.setSuper(0, 'C', 'B');
        x.addMember(0, 'A', 'a');
        x.addMember(0, 'B', 'b');
        x.addMember(0, 'B', 'd');
        x.addMember(0, 'C', 'c');
        x.addUse(0, 'B', 'b', 'A', 'a');
        Due.same("P8 no member", x.renameMember(0, 'A', 'b', 'z'), 2);
        Due.same("P8 to itself", x.renameMember(0, 'B', 'b', 'b'), 5);
        Due.same("P8 its class has it", x.renameMember(0, 'B', 'b', 'd'), 5);
        Due.same("P8 an ancestor has it", x.renameMember(0, 'C', 'c', 'a'), 5);
        Due.same("P8 a descendant has it", x.renameMember(0, 'A', 'a', 'c'), 5);
        Due.same("P8 made", x.renameMember(0, 'B', 'b', 'z'), 0);
        Due.same("P8 the use stays with the one that uses", x.hasUse(0, 'B', 'z', 'A', 'a'), true);
        x.renameMember(0, 'A', 'a', 'b');
        Due.same("P8 the use stays with the used one", x.hasUse(0, 'B', 'z', 'A', 'b'), true);
        Due.same("P8 members", x.members(0, 'B'), 1 << 25 | 8);
    }

    private static void moveMember() {
        RefactoringReplay x = new RefactoringReplay();
        Due.same("P9 no class", x.moveMember(0, 'A', 'a', 'A'), 2);
        for (int name = 'A'; name <= 'D'; name++) {
            x.addClass(0, name);
        }
        x.setSuper(0, 'B', 'A');
        x.setSuper(0, 'C', 'B');
        x.addMember(0, 'A', 'a');
        x.addMember(0, 'D', 'a');
        x.addUse(0, 'A', 'a', 'D', 'a');
        Due.same("P9 no class b", x.moveMember(0, 'A', 'a', 'E'), 2);
        Due.same("P9 no member", x.moveMember(0, 'A', 'b', 'B'), 2);
        Due.same("P9 to its own class", x.moveMember(0, 'A', 'a', 'A'), 1);
        Due.same("P9 b has it", x.moveMember(0, 'A', 'a', 'D'), 5);
        Due.same("P9 an ancestor of b has it", x.moveMember(0, 'D', 'a', 'C'), 5);
        Due.same("P9 down to a descendant", x.moveMember(0, 'A', 'a', 'C'), 0);
        Due.same("P9 a descendant of b has it", x.moveMember(0, 'D', 'a', 'A'), 5);
        Due.same("P9 up to an ancestor", x.moveMember(0, 'C', 'a', 'B'), 0);
        Due.same("P9 the use stays", x.hasUse(0, 'B', 'a', 'D', 'a'), true);
        Due.same("P9 the old class", x.members(0, 'A') + x.members(0, 'C'), 0);
        Due.same("P9 log", x.nameOf(x.log() - 1, 2), 'B');
    }

    private static void addUse() {
        RefactoringReplay x = new RefactoringReplay();
        x.addClass(1, 'A');
        x.addClass(1, 'B');
        for (int i = 0; i < 8; i++) {
            x.addMember(1, 'A', 'a' + i);
        }
        x.addMember(1, 'B', 'z');
        Due.same("P10 no member that uses", x.addUse(1, 'A', 'z', 'A', 'a'), 2);
        Due.same("P10 no member that is used", x.addUse(1, 'A', 'a', 'A', 'z'), 2);
        Due.same("P10 no class", x.addUse(1, 'A', 'a', 'C', 'a'), 2);
        Due.same("P10 made", x.addUse(1, 'A', 'a', 'B', 'z'), 0);
        Due.same("P10 the other way round", x.addUse(1, 'B', 'z', 'A', 'a'), 0);
        Due.same("P10 already", x.addUse(1, 'A', 'a', 'B', 'z'), 1);
        for (int i = 2; i < 60; i++) {
            Due.same("P10 use " + i, x.addUse(1, 'A', 'a' + i / 8, 'A', 'a' + i % 8), 0);
        }
        Due.same("P10 there are 60", x.addUse(1, 'B', 'z', 'B', 'z'), 9);
        Due.same("P10 there are 60, and already", x.addUse(1, 'A', 'a', 'B', 'z'), 1);
        Due.same("P10 there are 60, and no member", x.addUse(1, 'A', 'a', 'B', 'y'), 2);
        Due.same("P10 uses", x.uses(1), 60);
        x.removeUse(1, 'A', 'a', 'B', 'z');
        Due.same("P10 there are 59", x.addUse(1, 'B', 'z', 'B', 'z'), 0);
    }

    private static void removeUse() {
        RefactoringReplay x = new RefactoringReplay();
        Due.same("P11 no class", x.removeUse(0, 'A', 'a', 'A', 'a'), 2);
        x.addClass(0, 'A');
        x.addMember(0, 'A', 'a');
        x.addMember(0, 'A', 'b');
        x.addUse(0, 'A', 'a', 'A', 'b');
        Due.same("P11 not the other way round", x.removeUse(0, 'A', 'b', 'A', 'a'), 2);
        Due.same("P11 made", x.removeUse(0, 'A', 'a', 'A', 'b'), 0);
        Due.same("P11 gone", x.hasUse(0, 'A', 'a', 'A', 'b'), false);
        Due.same("P11 not a use any more", x.removeUse(0, 'A', 'a', 'A', 'b'), 2);
        Due.same("P11 members stay", x.members(0, 'A'), 3);
        Due.same("P11 recorded", x.kindOf(x.log() - 1), 9);
    }

    private static int call(RefactoringReplay x, int kind, int v, int[] names) {
        int a = names[0];
        int m = names[1];
        int b = names[2];
        int n = names[3];
        switch (kind) {
            case 0: return x.addClass(v, a);
            case 1: return x.removeClass(v, a);
            case 2: return x.renameClass(v, a, b);
            case 3: return x.setSuper(v, a, b);
            case 4: return x.addMember(v, a, m);
            case 5: return x.removeMember(v, a, m);
            case 6: return x.renameMember(v, a, m, n);
            case 7: return x.moveMember(v, a, m, b);
            case 8: return x.addUse(v, a, m, b, n);
            default: return x.removeUse(v, a, m, b, n);
        }
    }

    private static boolean has(int kind, int which) {
        switch (which) {
            case 0: return true;
            case 1: return kind >= 4;
            case 2: return kind == 2 || kind == 3 || kind >= 7;
            default: return kind == 6 || kind >= 8;
        }
    }

    private static void wrongChanges() {
        int[] wrongClasses = {Integer.MIN_VALUE, -1, 0, 1, 'A' - 1, 'Z' + 1, 'a', 'A' + 256, Integer.MAX_VALUE};
        int[] wrongMembers = {Integer.MIN_VALUE, -1, 0, 1, 'a' - 1, 'z' + 1, 'A', 'a' + 256, Integer.MAX_VALUE};
        RefactoringReplay x = new RefactoringReplay();
        for (int kind = 0; kind < 10; kind++) {
            int k = kind;
            String what = "P" + (2 + kind);
            int[] legal = {'A', 'a', 'B', 'b'};
            for (int version : new int[] {-1, 2, Integer.MIN_VALUE, Integer.MAX_VALUE}) {
                Due.outOfBounds(what + " version " + version, () -> call(x, k, version, legal));
            }
            for (int which = 0; which < 4; which++) {
                for (int wrong : which % 2 == 0 ? wrongClasses : wrongMembers) {
                    int[] names = legal.clone();
                    names[which] = wrong;
                    boolean none = kind == 3 && which == 2 && wrong == 0;
                    if (has(kind, which) && !none) {
                        Due.illegalArgument(what + " name " + which + " is " + wrong, () -> call(x, k, 0, names));
                        Due.illegalArgument(what + " name " + which + " is " + wrong, () -> call(x, k, 1, names));
                    }
                }
            }
        }
        Due.same("P2 to P11 nothing is changed", x.fingerprint(), 1333);
    }

    private static void orderOfExceptions() {
        RefactoringReplay x = new RefactoringReplay();
        x.addClass(0, 'A');
        for (int i = 1; i < 30; i++) {
            Due.same("the log takes 30", x.setSuper(0, 'A', 0), 0);
        }
        long print = x.fingerprint();
        int[] legal = {'A', 'a', 'B', 'b'};
        int[] illegal = {'a', 'A', 'b', 'B'};
        for (int kind = 0; kind < 10; kind++) {
            int k = kind;
            String what = "P" + (2 + kind) + " with a full log";
            Due.illegalState(what, () -> call(x, k, 0, legal));
            Due.illegalArgument(what, () -> call(x, k, 0, illegal));
            Due.outOfBounds(what, () -> call(x, k, 2, illegal));
        }
        Due.same("P2 to P11 a full log stays", x.log(), 30);
        Due.same("P2 to P11 nothing is changed", x.fingerprint(), print);
        Due.same("P2 version 1 can be changed", x.addClass(1, 'A'), 0);
        x.undo();
        Due.same("P2 29 changes leave room", x.addClass(0, 'B'), 0);
    }

    private static void classesAndNames() {
        RefactoringReplay x = new RefactoringReplay();
        x.addClass(1, 'Z');
        x.addClass(1, 'M');
        x.addClass(1, 'A');
        x.addClass(0, 'Q');
        Due.same("P12 version 1", x.classes(1), 3);
        Due.same("P12 version 0", x.classes(0), 1);
        Due.outOfBounds("P12 version 2", () -> x.classes(2));
        Due.outOfBounds("P12 version -1", () -> x.classes(-1));
        Due.same("P13 first", x.className(1, 0), 'A');
        Due.same("P13 second", x.className(1, 1), 'M');
        Due.same("P13 third", x.className(1, 2), 'Z');
        x.renameClass(1, 'A', 'N');
        Due.same("P13 renamed", x.className(1, 1), 'N');
        Due.outOfBounds("P13 fourth", () -> x.className(1, 3));
        Due.outOfBounds("P13 -1", () -> x.className(1, -1));
        Due.outOfBounds("P13 least", () -> x.className(1, Integer.MIN_VALUE));
        Due.outOfBounds("P13 greatest", () -> x.className(1, Integer.MAX_VALUE));
        Due.outOfBounds("P13 version 2", () -> x.className(2, 0));
        Due.outOfBounds("P13 version -1", () -> x.className(-1, 0));
    }

    private static void superOf() {
        RefactoringReplay x = new RefactoringReplay();
        x.addClass(0, 'A');
        x.addClass(0, 'B');
        x.setSuper(0, 'A', 'B');
        Due.same("P14 superclass", x.superOf(0, 'A'), 'B');
        Due.same("P14 none", x.superOf(0, 'B'), 0);
        Due.same("P14 no class", x.superOf(0, 'C'), -1);
        Due.same("P14 no class in version 1", x.superOf(1, 'A'), -1);
        Due.outOfBounds("P14 version", () -> x.superOf(2, 0));
        Due.illegalArgument("P14 name", () -> x.superOf(0, 0));
        Due.illegalArgument("P14 name", () -> x.superOf(1, 'Z' + 1));
    }

    private static void members() {
        RefactoringReplay x = new RefactoringReplay();
        x.addClass(0, 'A');
        Due.same("P15 none", x.members(0, 'A'), 0);
        for (int m = 'a'; m <= 'z'; m++) {
            x.addMember(0, 'A', m);
        }
        Due.same("P15 all", x.members(0, 'A'), (1 << 26) - 1);
        Due.same("P15 no class", x.members(1, 'A'), -1);
        Due.outOfBounds("P15 version", () -> x.members(-1, 'a'));
        Due.illegalArgument("P15 name", () -> x.members(0, 'a'));
    }

    private static void uses() {
        RefactoringReplay x = new RefactoringReplay();
        x.addClass(1, 'A');
        x.addMember(1, 'A', 'a');
        x.addMember(1, 'A', 'b');
        x.addUse(1, 'A', 'a', 'A', 'a');
        x.addUse(1, 'A', 'a', 'A', 'b');
        x.addUse(1, 'A', 'b', 'A', 'a');
        Due.same("P16 version 1", x.uses(1), 3);
        Due.same("P16 version 0", x.uses(0), 0);
        Due.outOfBounds("P16 version 2", () -> x.uses(2));
        Due.outOfBounds("P16 version -1", () -> x.uses(-1));
    }

    private static void hasUse() {
        RefactoringReplay x = new RefactoringReplay();
        x.addClass(0, 'A');
        x.addClass(0, 'B');
        x.addMember(0, 'A', 'a');
        x.addMember(0, 'B', 'b');
        x.addUse(0, 'A', 'a', 'B', 'b');
        Due.same("P17 it is", x.hasUse(0, 'A', 'a', 'B', 'b'), true);
        Due.same("P17 not the other way round", x.hasUse(0, 'B', 'b', 'A', 'a'), false);
        Due.same("P17 not in version 1", x.hasUse(1, 'A', 'a', 'B', 'b'), false);
        Due.same("P17 no member", x.hasUse(0, 'A', 'c', 'B', 'b'), false);
        Due.same("P17 no class", x.hasUse(0, 'A', 'a', 'C', 'b'), false);
        Due.outOfBounds("P17 version", () -> x.hasUse(2, 0, 0, 0, 0));
        Due.illegalArgument("P17 a", () -> x.hasUse(0, 'a', 'a', 'B', 'b'));
        Due.illegalArgument("P17 m", () -> x.hasUse(0, 'A', 'A', 'B', 'b'));
        Due.illegalArgument("P17 b", () -> x.hasUse(0, 'A', 'a', 0, 'b'));
        Due.illegalArgument("P17 n", () -> x.hasUse(1, 'A', 'a', 'B', 'z' + 1));
    }

    private static void copyVersion() {
        RefactoringReplay x = new RefactoringReplay();
        x.addClass(1, 'Z');
        x.addClass(0, 'A');
        x.addClass(0, 'B');
        x.setSuper(0, 'B', 'A');
        x.addMember(0, 'B', 'b');
        x.addUse(0, 'B', 'b', 'B', 'b');
        Due.same("P18 classes", x.copyVersion(), 2);
        Due.same("P18 the same", x.areSame(), true);
        Due.same("P18 what was there is gone", x.members(1, 'Z'), -1);
        Due.same("P18 superclass", x.superOf(1, 'B'), 'A');
        Due.same("P18 use", x.hasUse(1, 'B', 'b', 'B', 'b'), true);
        Due.same("P18 the log stays", x.log(), 5);
        x.removeMember(1, 'B', 'b');
        Due.same("P18 version 0 stays", x.members(0, 'B'), 2);
    }

    private static void areSame() {
        RefactoringReplay x = new RefactoringReplay();
        x.addClass(0, 'A');
        Due.same("P19 another number of classes", x.areSame(), false);
        x.addClass(1, 'B');
        Due.same("P19 other classes", x.areSame(), false);
        x.addClass(0, 'B');
        x.addClass(1, 'A');
        Due.same("P19 in another order", x.areSame(), true);
        x.setSuper(0, 'A', 'B');
        Due.same("P19 another superclass", x.areSame(), false);
        x.setSuper(1, 'A', 'B');
        x.addMember(0, 'A', 'a');
        Due.same("P19 another number of members", x.areSame(), false);
        x.addMember(1, 'B', 'a');
        Due.same("P19 members elsewhere", x.areSame(), false);
        x.moveMember(1, 'B', 'a', 'A');
        x.addMember(0, 'A', 'b');
        x.addMember(1, 'A', 'b');
        Due.same("P19 the same members", x.areSame(), true);
        x.addUse(0, 'A', 'a', 'A', 'b');
        Due.same("P19 another number of uses", x.areSame(), false);
        x.addUse(1, 'A', 'b', 'A', 'a');
        Due.same("P19 other uses", x.areSame(), false);
        x.addUse(1, 'A', 'a', 'A', 'b');
        x.removeUse(1, 'A', 'b', 'A', 'a');
        Due.same("P19 the same uses", x.areSame(), true);
        x.addUse(1, 'A', 'b', 'A', 'b');
        Due.same("P19 more uses in version 1", x.areSame(), false);
        x.removeUse(1, 'A', 'b', 'A', 'b');
        x.addMember(1, 'A', 'c');
        Due.same("P19 more members in version 1", x.areSame(), false);
        x.removeMember(1, 'A', 'c');
        x.addClass(1, 'C');
        Due.same("P19 more classes in version 1", x.areSame(), false);
    }
}
