/** The four examples of the document as they stand. */
public final class ExamplesTest {
    public static void main(String[] args) {
        renamedAndAdded();
        commuting();
        faults();
        notAllowed();
        Due.end();
    }

    private static void renamedAndAdded() {
        RefactoringReplay x = new RefactoringReplay();
        Due.same("1 addClass", x.addClass(0, 65), 0);
        Due.same("1 addMember", x.addMember(0, 65, 97), 0);
        Due.same("1 clearLog", x.clearLog(), 2);
        Due.same("1 copyVersion", x.copyVersion(), 1);
        Due.same("1 renameClass", x.renameClass(1, 65, 66), 0);
        Due.same("1 renameMember", x.renameMember(0, 65, 97, 98), 0);
        Due.same("1 addMember", x.addMember(0, 65, 99), 0);
        Due.same("1 matchOfClass", x.matchOfClass(65), 66);
        Due.same("1 replay", x.replay(-1, false), 2);
        Due.same("1 members", x.members(1, 66), 6);
        Due.same("1 areSame", x.areSame(), false);
    }

    private static void commuting() {
        RefactoringReplay x = new RefactoringReplay();
        Due.same("2 addClass", x.addClass(0, 65), 0);
        Due.same("2 renameClass", x.renameClass(0, 65, 66), 0);
        Due.same("2 addMember", x.addMember(0, 66, 97), 0);
        Due.same("2 commutes(0)", x.commutes(0), false);
        Due.same("2 commutes(1)", x.commutes(1), true);
        Due.same("2 needs(2)", x.needs(2), 1);
        Due.same("2 exchange(1)", x.exchange(1), true);
        Due.same("2 nameOf(1, 0)", x.nameOf(1, 0), 65);
        Due.same("2 kindOf(1)", x.kindOf(1), 4);
    }

    private static void faults() {
        RefactoringReplay x = new RefactoringReplay();
        Due.same("3 addClass", x.addClass(0, 65), 0);
        Due.same("3 addMember", x.addMember(0, 65, 97), 0);
        Due.same("3 addClass", x.addClass(0, 66), 0);
        Due.same("3 setSuper", x.setSuper(0, 66, 65), 0);
        Due.same("3 addMember", x.addMember(0, 66, 97), 5);
        Due.same("3 setSuper", x.setSuper(0, 65, 66), 4);
        Due.same("3 removeClass", x.removeClass(0, 65), 3);
        Due.same("3 undo", x.undo(), 3);
        Due.same("3 addMember", x.addMember(0, 66, 97), 0);
    }

    private static void notAllowed() {
        RefactoringReplay x = new RefactoringReplay();
        Due.illegalState("4 undo", () -> x.undo());
        Due.illegalArgument("4 addClass(0, 97)", () -> x.addClass(0, 97));
        Due.outOfBounds("4 outcome", () -> x.outcome(0));
        Due.same("4 addClass", x.addClass(0, 65), 0);
        Due.same("4 addClass", x.addClass(0, 65), 1);
        Due.same("4 needs", x.needs(0), 0);
        Due.illegalArgument("4 replay(2)", () -> x.replay(2, false));
    }
}
