/** Promises 20 to 27: the log, undoing, commuting and needs. */
public final class LogPromisesTest {
    public static void main(String[] args) {
        whatIsRecorded();
        wrongReading();
        clearLog();
        undo();
        undoAfterExchange();
        wrongCommuting();
        carriedThroughClassNames();
        carriedThroughMemberNames();
        otherMembersStay();
        carriedThroughMoves();
        namesThatAreNew();
        sameResultIsAsked();
        stateMatters();
        needsOfChains();
        needsMovesTheRest();
        needsStaysAfterFailure();
        needsOfFullLog();
        Due.end();
    }

    /** Classes A, B, C with members Aa, Ab, Bc as the base, and an empty log. */
    private static RefactoringReplay small() {
        RefactoringReplay x = new RefactoringReplay();
        x.addClass(0, 'A');
        x.addClass(0, 'B');
        x.addClass(0, 'C');
        x.addMember(0, 'A', 'a');
        x.addMember(0, 'A', 'b');
        x.addMember(0, 'B', 'c');
        x.clearLog();
        return x;
    }

    private static void step(String what, RefactoringReplay x, int i, int kind, String names) {
        Due.same(what + " kindOf " + i, x.kindOf(i), kind);
        for (int which = 0; which < 4; which++) {
            char want = names.charAt(which);
            Due.same(what + " nameOf " + i + " " + which, x.nameOf(i, which), want == '-' ? 0 : want);
        }
    }

    private static void whatIsRecorded() {
        RefactoringReplay x = new RefactoringReplay();
        x.addClass(0, 'A');
        x.addClass(0, 'B');
        x.addClass(0, 'A');
        x.addClass(1, 'C');
        x.setSuper(0, 'A', 'B');
        x.setSuper(0, 'A', 0);
        x.addMember(0, 'A', 'a');
        x.renameMember(0, 'A', 'a', 'b');
        x.moveMember(0, 'A', 'b', 'B');
        x.addUse(0, 'B', 'b', 'B', 'b');
        x.removeUse(0, 'B', 'b', 'B', 'b');
        x.removeMember(0, 'B', 'b');
        x.renameClass(0, 'A', 'Z');
        x.removeClass(0, 'Z');
        Due.same("P20 log", x.log(), 12);
        step("P21, P22", x, 0, 0, "A---");
        step("P21, P22", x, 1, 0, "B---");
        step("P21, P22", x, 2, 3, "A-B-");
        step("P21, P22", x, 3, 3, "A---");
        step("P21, P22", x, 4, 4, "Aa--");
        step("P21, P22", x, 5, 6, "Aa-b");
        step("P21, P22", x, 6, 7, "AbB-");
        step("P21, P22", x, 7, 8, "BbBb");
        step("P21, P22", x, 8, 9, "BbBb");
        step("P21, P22", x, 9, 5, "Bb--");
        step("P21, P22", x, 10, 2, "A-Z-");
        step("P21, P22", x, 11, 1, "Z---");
    }

    private static void wrongReading() {
        RefactoringReplay x = new RefactoringReplay();
        x.addClass(0, 'A');
        for (int i : new int[] {-1, 1, 29, 30, Integer.MIN_VALUE, Integer.MAX_VALUE}) {
            Due.outOfBounds("P21 kindOf " + i, () -> x.kindOf(i));
            Due.outOfBounds("P22 nameOf " + i, () -> x.nameOf(i, 0));
            Due.outOfBounds("P27 needs " + i, () -> x.needs(i));
        }
        for (int which : new int[] {-1, 4, Integer.MIN_VALUE, Integer.MAX_VALUE}) {
            Due.outOfBounds("P22 which " + which, () -> x.nameOf(0, which));
        }
    }

    private static void clearLog() {
        RefactoringReplay x = new RefactoringReplay();
        Due.same("P23 empty", x.clearLog(), 0);
        x.addClass(0, 'A');
        x.addClass(0, 'B');
        Due.same("P23 the base has no class yet", x.matchOfClass('A'), -1);
        Due.same("P23 two", x.clearLog(), 2);
        Due.same("P23 log", x.log(), 0);
        Due.same("P23 version 0 stays", x.classes(0), 2);
        Due.same("P23 version 0 is the base", x.matchOfClass('A'), 0);
        x.addClass(0, 'C');
        x.undo();
        Due.same("P23 undo goes back to the base", x.classes(0), 2);
        Due.illegalState("P23 and no further", () -> x.undo());
    }

    private static void undo() {
        RefactoringReplay x = small();
        Due.illegalState("P24 empty", () -> x.undo());
        long print = x.fingerprint();
        x.addUse(0, 'A', 'a', 'B', 'c');
        x.addUse(0, 'A', 'a', 'A', 'a');
        long before = x.fingerprint();
        x.removeMember(0, 'A', 'a');
        Due.same("P24 undo", x.undo(), 2);
        Due.same("P24 the member's uses are there again", x.fingerprint(), before);
        Due.same("P24 undo", x.undo(), 1);
        Due.same("P24 undo", x.undo(), 0);
        Due.same("P24 all is as it was", x.fingerprint(), print);
        x.setSuper(0, 'B', 'A');
        x.setSuper(0, 'B', 'C');
        x.renameClass(0, 'A', 'D');
        x.undo();
        x.undo();
        Due.same("P24 the superclass is as it was", x.superOf(0, 'B'), 'A');
        Due.same("P24 version 1 stays", x.classes(1), 0);
    }

    private static void undoAfterExchange() {
        RefactoringReplay x = small();
        x.renameClass(0, 'A', 'D');
        x.addMember(0, 'D', 'z');
        Due.same("P26 exchanged", x.exchange(0), true);
        step("P26", x, 0, 4, "Az--");
        step("P26", x, 1, 2, "A-D-");
        Due.same("P26 version 0 stays", x.members(0, 'D'), 3 | 1 << 25);
        x.undo();
        Due.same("P24 the rename is undone", x.members(0, 'A'), 3 | 1 << 25);
    }

    private static void wrongCommuting() {
        RefactoringReplay x = new RefactoringReplay();
        x.addClass(0, 'A');
        Due.outOfBounds("P25 no second change", () -> x.commutes(0));
        Due.outOfBounds("P26 no second change", () -> x.exchange(0));
        x.addClass(0, 'B');
        for (int i : new int[] {-1, 1, 2, Integer.MIN_VALUE, Integer.MAX_VALUE}) {
            Due.outOfBounds("P25 commutes " + i, () -> x.commutes(i));
            Due.outOfBounds("P26 exchange " + i, () -> x.exchange(i));
        }
        Due.same("P25 two classes", x.commutes(0), true);
        Due.same("P26 two classes", x.exchange(0), true);
        step("P26", x, 0, 0, "B---");
        step("P26", x, 1, 0, "A---");
    }

    /** After a rename of class A to D, the last change is carried back to the name A. */
    private static void carriedThroughClassNames() {
        String[] wants = {"3A-C-", "3C-A-", "4Ax--", "5Ab--", "6Aa-x", "7AaC-", "7BcA-", "8AaBc", "8BcAa"};
        for (int i = 0; i < wants.length; i++) {
            RefactoringReplay x = small();
            x.renameClass(0, 'A', 'D');
            switch (i) {
                case 0: x.setSuper(0, 'D', 'C'); break;
                case 1: x.setSuper(0, 'C', 'D'); break;
                case 2: x.addMember(0, 'D', 'x'); break;
                case 3: x.removeMember(0, 'D', 'b'); break;
                case 4: x.renameMember(0, 'D', 'a', 'x'); break;
                case 5: x.moveMember(0, 'D', 'a', 'C'); break;
                case 6: x.moveMember(0, 'B', 'c', 'D'); break;
                case 7: x.addUse(0, 'D', 'a', 'B', 'c'); break;
                default: x.addUse(0, 'B', 'c', 'D', 'a'); break;
            }
            long print = x.fingerprint();
            Due.same("P25 commutes " + wants[i], x.commutes(0), true);
            Due.same("P26 exchange " + wants[i], x.exchange(0), true);
            step("P26", x, 0, wants[i].charAt(0) - '0', wants[i].substring(1));
            step("P26", x, 1, 2, "A-D-");
            Due.same("P26 version 0 stays", x.fingerprint(), print);
            Due.same("P26 exchange back", x.exchange(0), true);
            step("P26 back", x, 0, 2, "A-D-");
        }
    }

    private static void carriedThroughMemberNames() {
        RefactoringReplay x = small();
        x.renameMember(0, 'A', 'a', 'x');
        x.addUse(0, 'A', 'x', 'A', 'x');
        Due.same("P26 both members of a use", x.exchange(0), true);
        step("P26", x, 0, 8, "AaAa");
        step("P26", x, 1, 6, "Aa-x");
        Due.same("P26 forward again", x.exchange(0), true);
        step("P26", x, 1, 8, "AxAx");
        x.moveMember(0, 'A', 'x', 'C');
        Due.same("P26 a use and a move", x.exchange(1), true);
        step("P26", x, 1, 7, "AxC-");
        step("P26", x, 2, 8, "CxCx");
        Due.same("P26 a renamed and a moved member", x.exchange(0), true);
        step("P26", x, 0, 7, "AaC-");
        step("P26", x, 1, 6, "Ca-x");
    }

    private static void otherMembersStay() {
        String[] uses = {"AbCx", "CxAb", "CxCx", "AbAb"};
        for (String use : uses) {
            RefactoringReplay x = small();
            x.addMember(0, 'C', 'x');
            x.clearLog();
            x.renameMember(0, 'A', 'a', 'x');
            x.addUse(0, use.charAt(0), use.charAt(1), use.charAt(2), use.charAt(3));
            Due.same("P26 the same class or the same name is not the member", x.exchange(0), true);
            step("P26 back", x, 0, 8, use);
            step("P26 back", x, 1, 6, "Aa-x");
            Due.same("P26 nor forward", x.exchange(0), true);
            step("P26 forward", x, 0, 6, "Aa-x");
            step("P26 forward", x, 1, 8, use);
        }
    }

    private static void carriedThroughMoves() {
        RefactoringReplay x = small();
        x.moveMember(0, 'A', 'a', 'C');
        x.renameMember(0, 'C', 'a', 'x');
        Due.same("P26 a moved and renamed member", x.exchange(0), true);
        step("P26", x, 0, 6, "Aa-x");
        step("P26", x, 1, 7, "AxC-");
        x = small();
        x.moveMember(0, 'A', 'a', 'C');
        x.removeMember(0, 'C', 'a');
        Due.same("P25 what is removed can't be moved", x.commutes(0), false);
        Due.same("P26 not exchanged", x.exchange(0), false);
        step("P26 the log stays", x, 0, 7, "AaC-");
        step("P26 the log stays", x, 1, 5, "Ca--");
        x = small();
        x.moveMember(0, 'A', 'a', 'C');
        x.renameClass(0, 'C', 'D');
        Due.same("P26 a move and its class", x.exchange(0), true);
        step("P26", x, 0, 2, "C-D-");
        step("P26", x, 1, 7, "AaD-");
    }

    private static void namesThatAreNew() {
        RefactoringReplay x = small();
        x.moveMember(0, 'A', 'a', 'C');
        x.addMember(0, 'A', 'a');
        Due.same("P25 a new member takes the old place", x.commutes(0), false);
        x = small();
        x.renameMember(0, 'A', 'a', 'x');
        x.addMember(0, 'A', 'a');
        Due.same("P25 a new member takes the old name", x.commutes(0), false);
        x = small();
        x.renameClass(0, 'A', 'D');
        x.addClass(0, 'A');
        Due.same("P25 a new class takes the old name", x.commutes(0), false);
        x = small();
        x.renameClass(0, 'A', 'D');
        x.renameClass(0, 'B', 'A');
        Due.same("P25 another class takes the old name", x.commutes(0), false);
        x = small();
        x.addClass(0, 'D');
        x.renameClass(0, 'A', 'E');
        Due.same("P26 a new class and a rename", x.exchange(0), true);
        step("P26", x, 1, 0, "D---");
        x = small();
        x.removeMember(0, 'A', 'a');
        x.addMember(0, 'A', 'a');
        Due.same("P25 removed and added again", x.commutes(0), false);
        x = small();
        x.renameClass(0, 'A', 'D');
        x.renameClass(0, 'D', 'A');
        Due.same("P25 renamed there and back", x.commutes(0), false);
    }

    private static void sameResultIsAsked() {
        RefactoringReplay x = small();
        x.setSuper(0, 'A', 'B');
        x.setSuper(0, 'A', 'C');
        Due.same("P25 the last one counts", x.commutes(0), false);
        x = small();
        x.setSuper(0, 'A', 'B');
        x.setSuper(0, 'A', 'B');
        Due.same("P25 twice the same", x.commutes(0), true);
        x = small();
        x.renameClass(0, 'A', 'D');
        x.renameClass(0, 'D', 'E');
        Due.same("P25 a class renamed twice", x.commutes(0), false);
        x = small();
        x.renameMember(0, 'A', 'a', 'x');
        x.renameMember(0, 'A', 'x', 'y');
        Due.same("P25 a member renamed twice", x.commutes(0), false);
        x = small();
        x.moveMember(0, 'A', 'a', 'B');
        x.moveMember(0, 'B', 'a', 'C');
        Due.same("P25 a member moved twice", x.commutes(0), false);
        x = small();
        x.addUse(0, 'A', 'a', 'B', 'c');
        x.removeMember(0, 'A', 'a');
        Due.same("P25 a use and its member", x.commutes(0), false);
    }

    private static void stateMatters() {
        RefactoringReplay x = small();
        x.removeMember(0, 'B', 'c');
        x.setSuper(0, 'B', 'A');
        x.addMember(0, 'B', 'x');
        Due.same("P25 the state before i counts", x.commutes(1), true);
        x.removeMember(0, 'B', 'x');
        x.addMember(0, 'A', 'x');
        Due.same("P25 the descendant has it in between", x.commutes(3), false);
        x = new RefactoringReplay();
        for (int i = 0; i < 12; i++) {
            x.addClass(0, 'A' + i);
        }
        x.removeClass(0, 'A');
        x.addClass(0, 'Z');
        Due.same("P25 there is no room for 13 classes", x.commutes(12), false);
        x.removeClass(0, 'B');
        x.addClass(0, 'C');
        Due.same("P25 nor in between", x.commutes(13), true);
    }

    private static void needsOfChains() {
        RefactoringReplay x = new RefactoringReplay();
        x.addClass(0, 'A');
        x.addClass(0, 'B');
        x.addMember(0, 'A', 'a');
        x.addMember(0, 'B', 'b');
        x.addUse(0, 'A', 'a', 'B', 'b');
        x.addUse(0, 'A', 'a', 'A', 'a');
        x.removeUse(0, 'A', 'a', 'B', 'b');
        int[] wants = {0, 0, 1, 2, 15, 5, 31};
        for (int i = 0; i < wants.length; i++) {
            Due.same("P27 needs " + i, x.needs(i), wants[i]);
        }
        Due.same("P27 the log stays", x.kindOf(6), 9);
    }

    private static void needsMovesTheRest() {
        RefactoringReplay x = small();
        x.renameClass(0, 'A', 'D');
        x.renameMember(0, 'D', 'a', 'x');
        x.moveMember(0, 'D', 'x', 'C');
        x.addUse(0, 'C', 'x', 'B', 'c');
        Due.same("P27 a use needs no names and places", x.needs(3), 0);
        Due.same("P27 a move needs no names", x.needs(2), 0);
        step("P27 the log stays", x, 3, 8, "CxBc");
        x.addMember(0, 'D', 'a');
        // From the end on: the move gets behind it, then the rename is what makes the name free.
        Due.same("P27 a new member needs its name to be free", x.needs(4), 2);
    }

    private static void needsStaysAfterFailure() {
        RefactoringReplay x = small();
        x.addMember(0, 'A', 'x');
        x.renameMember(0, 'A', 'x', 'y');
        x.addMember(0, 'A', 'x');
        x.addUse(0, 'A', 'x', 'A', 'y');
        Due.same("P27 the second x needs the rename of the first", x.needs(2), 3);
        Due.same("P27 the use needs all", x.needs(3), 7);
        x = small();
        x.addClass(0, 'D');
        x.setSuper(0, 'D', 'A');
        x.renameClass(0, 'D', 'E');
        x.addMember(0, 'E', 'x');
        Due.same("P27 a member needs its class alone", x.needs(3), 1);
        x.removeMember(0, 'E', 'x');
        x.setSuper(0, 'E', 0);
        x.removeClass(0, 'E');
        // None gets behind the removal: the class is gone then, and has a member x before.
        Due.same("P27 a removed class", x.needs(6), 63);
    }

    private static void needsOfFullLog() {
        RefactoringReplay x = new RefactoringReplay();
        x.addClass(0, 'A');
        for (int i = 1; i < 30; i++) {
            x.renameClass(0, i % 2 == 1 ? 'A' : 'B', i % 2 == 1 ? 'B' : 'A');
        }
        Due.same("P27 30 changes in a chain", x.needs(29), (1 << 29) - 1);
        Due.same("P27 the first one", x.needs(0), 0);
        Due.outOfBounds("P27 no change 30", () -> x.needs(30));
    }
}
