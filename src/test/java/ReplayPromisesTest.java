/** Promises 28 to 33: matching, replaying, outcomes and the fingerprint. */
public final class ReplayPromisesTest {
    public static void main(String[] args) {
        matchByName();
        matchByMembers();
        matchTakesTheClosest();
        matchOfMembers();
        matchOfLoneMembers();
        matchedMembersStayMatched();
        wrongMatching();
        replayFollowsMatches();
        replayUsesTheNamesThere();
        whatIsNewHasNoOldMatch();
        replayWithoutMatch();
        replayFaults();
        countsAsMade();
        taken();
        takenNoMoreWhenRemoved();
        mendedClassName();
        mendedMemberNames();
        mendedInVain();
        mendedUntilAnotherFault();
        selection();
        skippedChangesAreFollowed();
        limitsInVersionOne();
        wrongSelection();
        forecastChangesNothing();
        outcomes();
        fingerprint();
        Due.end();
    }

    /** A program as a text, such as "A:ab B:c D": classes and their members. */
    private static void fill(RefactoringReplay x, int version, String text) {
        for (String part : text.split(" ")) {
            x.addClass(version, part.charAt(0));
            for (int i = 2; i < part.length(); i++) {
                x.addMember(version, part.charAt(0), part.charAt(i));
            }
        }
    }

    /** The base and version 1. */
    private static RefactoringReplay both(String base, String other) {
        RefactoringReplay x = new RefactoringReplay();
        fill(x, 0, base);
        x.clearLog();
        fill(x, 1, other);
        return x;
    }

    private static void results(String what, RefactoringReplay x, int... wants) {
        for (int i = 0; i < wants.length; i++) {
            Due.same(what + " outcome " + i, x.outcome(i), wants[i]);
        }
        Due.outOfBounds(what + " outcome behind the end", () -> x.outcome(wants.length));
    }

    private static void matchByName() {
        RefactoringReplay x = both("A:ab B:c", "A:z B C:ab");
        Due.same("P28 the same name counts most", x.matchOfClass('A'), 'A');
        Due.same("P28 B", x.matchOfClass('B'), 'B');
        Due.same("P28 the base has no C", x.matchOfClass('C'), -1);
        x.renameClass(0, 'A', 'D');
        Due.same("P28 the base is asked, not version 0", x.matchOfClass('A'), 'A');
        Due.same("P28 the base has no D", x.matchOfClass('D'), -1);
        x.removeClass(1, 'B');
        Due.same("P28 version 1 as it is now", x.matchOfClass('B'), 0);
    }

    private static void matchByMembers() {
        Due.same("P28 no members", both("A", "B").matchOfClass('A'), 0);
        Due.same("P28 half of one", both("A:a", "B:ab").matchOfClass('A'), 'B');
        Due.same("P28 half of two", both("A:ab", "B:bcdef").matchOfClass('A'), 'B');
        Due.same("P28 a third", both("A:abc", "B:c").matchOfClass('A'), 0);
        Due.same("P28 two thirds", both("A:abc", "B:cb").matchOfClass('A'), 'B');
        Due.same("P28 two fifths", both("A:abcde", "B:cb").matchOfClass('A'), 0);
        Due.same("P28 none in common", both("A:a", "B:b").matchOfClass('A'), 0);
        Due.same("P28 the only one has its name's match", both("A:a B", "B:a").matchOfClass('A'), 0);
    }

    private static void matchTakesTheClosest() {
        RefactoringReplay x = both("A:abc", "D:ab C:ab E:abc B:a");
        Due.same("P28 the most", x.matchOfClass('A'), 'E');
        x.removeMember(1, 'E', 'c');
        Due.same("P28 of several the smallest name", x.matchOfClass('A'), 'C');
        RefactoringReplay y = both("A:ab B:ab", "Z:ab Y:a");
        Due.same("P28 A comes first", y.matchOfClass('A'), 'Z');
        Due.same("P28 B takes the next", y.matchOfClass('B'), 'Y');
        RefactoringReplay z = both("B:ab A:a", "Z:ab");
        Due.same("P28 A comes first, in the order of names", z.matchOfClass('A'), 'Z');
        Due.same("P28 none is left", z.matchOfClass('B'), 0);
        RefactoringReplay w = both("B:abc A:ab", "Z:abc Y:a");
        Due.same("P28 the closest one is taken", w.matchOfClass('A'), 'Z');
        Due.same("P28 the rest is less than half", w.matchOfClass('B'), 0);
    }

    private static void matchOfMembers() {
        RefactoringReplay x = both("A:ab B:c", "A:a C:bc");
        Due.same("P29 in the same class", x.matchOfMember('A', 'a'), 256 * 'A' + 'a');
        Due.same("P29 in a matched class", x.matchOfMember('B', 'c'), 256 * 'C' + 'c');
        Due.same("P29 elsewhere", x.matchOfMember('A', 'b'), 256 * 'C' + 'b');
        Due.same("P29 the base has none", x.matchOfMember('B', 'b'), -1);
        Due.same("P29 the base has no class", x.matchOfMember('C', 'b'), -1);
        x.renameMember(1, 'A', 'a', 'z');
        Due.same("P29 none", x.matchOfMember('A', 'a'), 0);
    }

    private static void matchOfLoneMembers() {
        RefactoringReplay x = both("A:a B:ab", "C:a D:a");
        Due.same("P29 A is C", x.matchOfMember('A', 'a'), 256 * 'C' + 'a');
        Due.same("P29 B is D", x.matchOfMember('B', 'a'), 256 * 'D' + 'a');
        RefactoringReplay y = both("A:x", "A:y C:x D:x");
        Due.same("P29 two are left", y.matchOfMember('A', 'x'), 0);
        y.removeMember(1, 'C', 'x');
        Due.same("P29 just one is left", y.matchOfMember('A', 'x'), 256 * 'D' + 'x');
        RefactoringReplay z = both("B:x A:x", "A B C:x");
        Due.same("P29 the first class in the order of names", z.matchOfMember('A', 'x'), 256 * 'C' + 'x');
        Due.same("P29 none is left", z.matchOfMember('B', 'x'), 0);
        RefactoringReplay w = both("A:x B:x", "A B C:x D:x");
        Due.same("P29 two for the first", w.matchOfMember('A', 'x'), 0);
        Due.same("P29 and two for the second", w.matchOfMember('B', 'x'), 0);
    }

    private static void matchedMembersStayMatched() {
        Due.same("P29 its class counts most", both("A:x", "A:x C:x D:x").matchOfMember('A', 'x'), 256 * 'A' + 'x');
        Due.same("P29 what is matched stays", both("A:x", "A:x C:x").matchOfMember('A', 'x'), 256 * 'A' + 'x');
        RefactoringReplay x = both("A:x B:x", "A:x C:x B");
        Due.same("P29 what is matched is not left", x.matchOfMember('B', 'x'), 256 * 'C' + 'x');
    }

    private static void wrongMatching() {
        RefactoringReplay x = both("A:a", "A:a");
        for (int wrong : new int[] {0, -1, 'a', 'A' - 1, 'Z' + 1, Integer.MAX_VALUE, Integer.MIN_VALUE}) {
            Due.illegalArgument("P28 " + wrong, () -> x.matchOfClass(wrong));
            Due.illegalArgument("P29 class " + wrong, () -> x.matchOfMember(wrong, 'a'));
        }
        for (int wrong : new int[] {0, -1, 'A', 'a' - 1, 'z' + 1, Integer.MAX_VALUE, Integer.MIN_VALUE}) {
            Due.illegalArgument("P29 member " + wrong, () -> x.matchOfMember('A', wrong));
        }
    }

    private static void replayFollowsMatches() {
        RefactoringReplay x = both("A:ab B:c", "X:abc Y");
        x.renameMember(0, 'A', 'a', 'q');
        x.renameClass(0, 'A', 'Z');
        x.addClass(0, 'A');
        x.moveMember(0, 'Z', 'q', 'A');
        x.addUse(0, 'A', 'q', 'B', 'c');
        x.removeMember(0, 'Z', 'b');
        x.setSuper(0, 'Z', 'A');
        x.setSuper(0, 'Z', 0);
        Due.same("P30 the base's B has no match", x.matchOfClass('B'), 0);
        Due.same("P30 its c has one", x.matchOfMember('B', 'c'), 256 * 'X' + 'c');
        Due.same("P30 replay", x.replay(-1, false), 8);
        results("P32", x, 0, 0, 0, 0, 0, 0, 0, 0);
        Due.same("P30 the new A", x.members(1, 'A'), 1 << 16);
        Due.same("P30 X is Z", x.members(1, 'Z'), 4);
        Due.same("P30 X is gone", x.members(1, 'X'), -1);
        Due.same("P30 Y stays", x.members(1, 'Y'), 0);
        Due.same("P30 the use", x.hasUse(1, 'A', 'q', 'Z', 'c'), true);
        Due.same("P30 no superclass", x.superOf(1, 'Z'), 0);
        Due.same("P30 the log stays", x.log(), 8);
        Due.same("P30 version 0 stays", x.members(0, 'A'), 1 << 16);
    }

    private static void replayUsesTheNamesThere() {
        RefactoringReplay x = both("A:ab B:cd", "X:ab Y:cd");
        x.renameMember(0, 'A', 'a', 'q');
        x.setSuper(0, 'A', 'B');
        x.moveMember(0, 'A', 'b', 'B');
        x.addUse(0, 'B', 'c', 'A', 'q');
        x.addUse(0, 'A', 'q', 'B', 'b');
        x.addUse(0, 'B', 'd', 'B', 'd');
        x.removeUse(0, 'B', 'c', 'A', 'q');
        Due.same("P30 the rename is not selected", x.replay(0b0111110, false), 5);
        results("P32", x, -1, 0, 0, 0, 0, 0, -1);
        Due.same("P30 the superclass", x.superOf(1, 'X'), 'Y');
        Due.same("P30 the moved member", x.members(1, 'Y'), 14);
        Due.same("P30 the used one", x.hasUse(1, 'Y', 'c', 'X', 'a'), true);
        Due.same("P30 the one that uses", x.hasUse(1, 'X', 'a', 'Y', 'b'), true);
        Due.same("P30 the use of itself", x.hasUse(1, 'Y', 'd', 'Y', 'd'), true);
        x.setSuper(0, 'A', 0);
        x.replay(0b11000000, false);
        results("P32", x, -1, -1, -1, -1, -1, -1, 0, 0);
        Due.same("P30 the use is removed", x.hasUse(1, 'Y', 'c', 'X', 'a'), false);
        Due.same("P30 no superclass", x.superOf(1, 'X'), 0);
    }

    private static void whatIsNewHasNoOldMatch() {
        RefactoringReplay x = both("A", "A");
        x.removeClass(0, 'A');
        x.addClass(0, 'C');
        x.addMember(0, 'C', 'x');
        Due.same("P30 C is not the A that was removed", x.replay(0b100, false), 0);
        results("P32", x, -1, -1, 2);
        RefactoringReplay y = both("A:a", "A:a");
        y.removeMember(0, 'A', 'a');
        y.addMember(0, 'A', 'c');
        y.renameMember(0, 'A', 'c', 'd');
        Due.same("P30 c is not the a that was removed", y.replay(0b100, false), 0);
        results("P32", y, -1, -1, 2);
    }

    private static void replayWithoutMatch() {
        RefactoringReplay x = both("A:ab B:c D", "B:c");
        x.renameClass(0, 'A', 'C');
        x.setSuper(0, 'C', 'B');
        x.setSuper(0, 'B', 'D');
        x.addMember(0, 'C', 'd');
        x.renameMember(0, 'C', 'a', 'e');
        x.moveMember(0, 'C', 'b', 'D');
        x.moveMember(0, 'B', 'c', 'D');
        x.addUse(0, 'C', 'e', 'D', 'c');
        x.addUse(0, 'D', 'c', 'C', 'e');
        x.removeUse(0, 'C', 'e', 'D', 'c');
        x.removeUse(0, 'D', 'c', 'C', 'e');
        x.removeMember(0, 'C', 'e');
        x.removeMember(0, 'C', 'd');
        x.addUse(0, 'D', 'c', 'D', 'c');
        x.setSuper(0, 'B', 0);
        Due.same("P30 replay", x.replay(-1, true), 2);
        results("P32", x, 2, 2, 2, 2, 2, 2, 2, 2, 2, 2, 2, 2, 2, 0, 0);
        Due.same("P30 only the use is made", x.hasUse(1, 'B', 'c', 'B', 'c'), true);
        Due.same("P30 no class is added", x.classes(1), 1);
    }

    private static void replayFaults() {
        RefactoringReplay x = both("A:a B C D:d", "A:a B:b C D:d");
        x.addUse(1, 'B', 'b', 'D', 'd');
        x.setSuper(1, 'C', 'A');
        x.setSuper(1, 'D', 'C');
        x.removeClass(0, 'B');
        x.removeMember(0, 'D', 'd');
        x.setSuper(0, 'A', 'D');
        x.addMember(0, 'C', 'd');
        x.renameMember(0, 'C', 'd', 'b');
        x.moveMember(0, 'A', 'a', 'C');
        x.renameClass(0, 'C', 'B');
        Due.same("P30 replay", x.replay(-1, false), 1);
        results("P32", x, 3, 3, 4, 5, 2, 0, 1);
        Due.same("P30 moved down", x.members(1, 'C'), 1);
    }

    private static void countsAsMade() {
        RefactoringReplay x = both("A:ab B:c", "A:ab B:c");
        x.addClass(0, 'D');
        x.addMember(0, 'D', 'd');
        x.addUse(0, 'A', 'a', 'D', 'd');
        x.moveMember(0, 'A', 'b', 'B');
        x.renameMember(0, 'B', 'b', 'e');
        x.addMember(0, 'B', 'f');
        x.renameClass(0, 'B', 'F');
        Due.same("P30 the first time", x.replay(-1, false), 7);
        Due.same("P30 the same versions", x.areSame(), true);
        Due.same("P31 a forecast", x.forecast(0b0001011, true), 2);
        Due.same("P30 the second time", x.replay(-1, false), 5);
        results("P32 b is named e, which no member of the base is", x, 0, 0, 0, 2, 2, 0, 0);
        Due.same("P30 without harm", x.areSame(), true);
        Due.same("P30 mended", x.replay(-1, true), 5);
        Due.same("P30 without harm when mended", x.areSame(), true);
        RefactoringReplay y = both("A:ab B", "A:a B:b");
        y.moveMember(0, 'A', 'b', 'B');
        y.addMember(0, 'B', 'c');
        y.addUse(0, 'B', 'b', 'B', 'c');
        y.addMember(1, 'B', 'c');
        y.addUse(1, 'B', 'b', 'B', 'c');
        Due.same("P30 moved, added and used already", y.replay(-1, false), 3);
        results("P32", y, 0, 0, 0);
    }

    private static void taken() {
        RefactoringReplay x = both("A:ab", "B:ab");
        x.addClass(0, 'B');
        x.addMember(0, 'B', 'c');
        x.renameMember(0, 'A', 'a', 'x');
        Due.same("P30 B is the match of A", x.replay(-1, true), 1);
        results("P32", x, 6, 2, 0);
        Due.same("P30 A's match is renamed", x.members(1, 'B'), 2 | 1 << 23);
        RefactoringReplay y = both("A:a B:b", "A:b B");
        y.addMember(0, 'A', 'b');
        y.addMember(0, 'A', 'c');
        y.addUse(0, 'A', 'b', 'A', 'c');
        Due.same("P30 the b of A is the match of that of B", y.replay(-1, true), 1);
        results("P32", y, 6, 0, 2);
    }

    private static void takenNoMoreWhenRemoved() {
        RefactoringReplay x = both("A:a", "B:az");
        x.removeMember(0, 'A', 'a');
        x.removeClass(0, 'A');
        x.addClass(0, 'B');
        x.addMember(0, 'B', 'z');
        x.addMember(0, 'B', 'y');
        Due.same("P30 the removal of the class is skipped", x.replay(-1, false), 4);
        results("P32", x, 0, 3, 0, 0, 0);
        Due.same("P30 members", x.members(1, 'B'), 3 << 24);
        RefactoringReplay y = both("A:a", "A:a");
        y.removeMember(0, 'A', 'a');
        y.addMember(0, 'A', 'a');
        Due.same("P30 a removal that is not selected parts them, too", y.replay(2, false), 1);
        results("P32", y, -1, 0);
    }

    private static void mendedClassName() {
        RefactoringReplay x = both("A:a", "A:a Y Z B C");
        x.renameClass(0, 'A', 'Y');
        Due.same("P30 not mended", x.replay(-1, false), 0);
        results("P32", x, 1);
        Due.same("P30 mended", x.replay(-1, true), 1);
        results("P32 Z, A, B and C are there", x, 100);
        Due.same("P30 it is D", x.members(1, 'D'), 1);
        Due.same("P30 A is free", x.members(1, 'A'), -1);
        RefactoringReplay y = both("A:a", "A:a Z");
        y.renameClass(0, 'A', 'Z');
        y.addMember(0, 'Z', 'b');
        Due.same("P30 mended", y.replay(-1, true), 2);
        results("P32 its own name is no new one", y, 100, 0);
        Due.same("P30 it is B", y.members(1, 'B'), 3);
    }

    private static void mendedMemberNames() {
        RefactoringReplay x = both("A:b B", "A:b B");
        x.addClass(1, 'C');
        x.setSuper(1, 'A', 'C');
        x.addMember(1, 'C', 'y');
        x.addMember(1, 'A', 'z');
        x.addMember(0, 'A', 'y');
        x.addUse(0, 'A', 'y', 'A', 'b');
        x.renameMember(0, 'A', 'b', 'z');
        x.moveMember(0, 'A', 'y', 'B');
        Due.same("P31 without mending", x.forecast(-1, false), 0);
        Due.same("P31 with mending", x.forecast(-1, true), 4);
        Due.same("P30 mended", x.replay(-1, true), 4);
        results("P32", x, 100, 0, 100, 0);
        Due.same("P30 y is a, after z", x.members(1, 'B'), 1);
        Due.same("P30 b is c, after z, a and b", x.members(1, 'A'), 4 | 1 << 25);
        Due.same("P30 the use is that of the mended one", x.hasUse(1, 'B', 'a', 'A', 'c'), true);
    }

    private static void mendedInVain() {
        RefactoringReplay x = both("A:a", "A:a B");
        for (int m = 'b'; m <= 'z'; m++) {
            x.addMember(1, 'B', m);
        }
        x.setSuper(1, 'A', 'B');
        x.renameMember(0, 'A', 'a', 'k');
        x.addMember(0, 'A', 'a');
        x.addMember(0, 'A', 'q');
        Due.same("P30 all 26 names are there", x.replay(-1, true), 0);
        results("P32", x, 5, 6, 5);
        x.removeMember(1, 'B', 'j');
        Due.same("P30 the 25th replacement", x.replay(1, true), 1);
        results("P32", x, 100, -1, -1);
        Due.same("P30 it is j", x.members(1, 'A'), 1 << 9);
    }

    private static void mendedUntilAnotherFault() {
        RefactoringReplay x = both("A", "A B:a C D");
        x.setSuper(1, 'A', 'B');
        for (int i = 0; i < 39; i++) {
            x.addMember(1, i < 26 ? 'C' : 'D', 'a' + i % 26);
        }
        x.addMember(0, 'A', 'a');
        Due.same("P30 there are 40 members", x.replay(-1, true), 0);
        results("P32", x, 9);
        Due.same("P30 not mended", x.replay(-1, false), 0);
        results("P32", x, 5);
    }

    private static void selection() {
        RefactoringReplay x = both("A", "A");
        x.addMember(0, 'A', 'a');
        x.addMember(0, 'A', 'b');
        x.addMember(0, 'A', 'c');
        Due.same("P30 none", x.replay(0, false), 0);
        results("P32", x, -1, -1, -1);
        Due.same("P30 the second", x.replay(2, false), 1);
        results("P32", x, -1, 0, -1);
        Due.same("P30 members", x.members(1, 'A'), 2);
        Due.same("P30 all by their bits", x.replay(7, false), 3);
        results("P32", x, 0, 0, 0);
    }

    private static void skippedChangesAreFollowed() {
        RefactoringReplay x = both("A:a B:b", "A:a B:b");
        x.renameClass(0, 'A', 'C');
        x.renameClass(0, 'B', 'A');
        x.addClass(0, 'D');
        x.addMember(0, 'A', 'x');
        x.addMember(0, 'C', 'y');
        x.addMember(0, 'D', 'z');
        Due.same("P30 the renames are not selected", x.replay(0b111000, false), 2);
        results("P32", x, -1, -1, -1, 0, 0, 2);
        Due.same("P30 A is meant by C", x.members(1, 'A'), 1 | 1 << 24);
        Due.same("P30 B is meant by A", x.members(1, 'B'), 2 | 1 << 23);
        Due.same("P30 D is not there", x.members(1, 'D'), -1);
        RefactoringReplay y = both("A:a", "A:a");
        y.addClass(0, 'D');
        y.addClass(1, 'D');
        y.addMember(0, 'D', 'z');
        Due.same("P30 what is not selected matches nothing", y.replay(2, false), 0);
        results("P32", y, -1, 2);
    }

    private static void limitsInVersionOne() {
        RefactoringReplay x = both("A:abcdefgh", "A:abcdefgh");
        for (int i = 1; i < 12; i++) {
            x.addClass(1, 'A' + i);
        }
        for (int i = 0; i < 60; i++) {
            x.addUse(1, 'A', 'a' + i / 8, 'A', 'a' + i % 8);
        }
        x.addClass(0, 'Z');
        x.addUse(0, 'A', 'h', 'A', 'h');
        x.addUse(0, 'A', 'a', 'A', 'a');
        x.addClass(0, 'B');
        Due.same("P30 there is no room", x.replay(-1, true), 2);
        results("P32", x, 9, 9, 0, 0);
    }

    private static void wrongSelection() {
        RefactoringReplay x = new RefactoringReplay();
        for (int selection : new int[] {1, 2, -2, Integer.MIN_VALUE, Integer.MAX_VALUE}) {
            Due.illegalArgument("P30 " + selection, () -> x.replay(selection, false));
            Due.illegalArgument("P31 " + selection, () -> x.forecast(selection, true));
        }
        Due.outOfBounds("P32 there was no replay", () -> x.outcome(0));
        x.addClass(0, 'A');
        Due.same("P31 bit 0", x.forecast(1, false), 1);
        Due.illegalArgument("P31 bit 1", () -> x.forecast(2, false));
        Due.illegalArgument("P30 bits 0 and 1", () -> x.replay(3, false));
        for (int i = 1; i < 30; i++) {
            x.setSuper(0, 'A', 0);
        }
        Due.same("P30 30 bits", x.replay((1 << 30) - 1, false), 30);
        Due.illegalArgument("P30 bit 30", () -> x.replay(1 << 30, false));
        Due.illegalArgument("P30 bit 31", () -> x.replay(1 << 31, false));
        Due.same("P32 a call that throws changes nothing", x.outcome(29), 0);
    }

    private static void forecastChangesNothing() {
        RefactoringReplay x = both("A:a", "A:a B");
        x.renameClass(0, 'A', 'B');
        x.addMember(0, 'B', 'b');
        long print = x.fingerprint();
        Due.same("P31 with mending", x.forecast(-1, true), 2);
        Due.same("P31 without mending", x.forecast(-1, false), 1);
        Due.same("P31 one", x.forecast(1, false), 0);
        Due.same("P31 nothing is changed", x.fingerprint(), print);
        Due.outOfBounds("P31 a forecast is no replay", () -> x.outcome(0));
        x.replay(2, false);
        x.forecast(-1, true);
        results("P31 outcomes stay", x, -1, 0);
    }

    private static void outcomes() {
        RefactoringReplay x = both("A:a", "A:a");
        Due.same("P30 an empty log", x.replay(-1, true), 0);
        Due.outOfBounds("P32 the log had no change", () -> x.outcome(0));
        x.addMember(0, 'A', 'b');
        Due.outOfBounds("P32 the log as it was then", () -> x.outcome(0));
        x.addMember(0, 'A', 'c');
        x.replay(2, false);
        x.clearLog();
        results("P32 the log is cleared later", x, -1, 0);
        x.addMember(0, 'A', 'd');
        results("P32 the log grows later", x, -1, 0);
        x.replay(-1, false);
        results("P32 the latest replay counts", x, 0);
        Due.outOfBounds("P32 -1", () -> x.outcome(-1));
        Due.outOfBounds("P32 least", () -> x.outcome(Integer.MIN_VALUE));
        Due.outOfBounds("P32 greatest", () -> x.outcome(Integer.MAX_VALUE));
    }

    private static long mix(long... numbers) {
        long print = 43;
        for (long number : numbers) {
            print = 31 * print + number;
        }
        return print;
    }

    private static void fingerprint() {
        RefactoringReplay x = new RefactoringReplay();
        Due.same("P33 a new object", x.fingerprint(), mix(0));
        x.addClass(0, 'B');
        x.addClass(0, 'A');
        x.setSuper(0, 'B', 'A');
        Due.same("P33 classes", x.fingerprint(), mix('A', 0, 0, 'B', 'A', 0, 3));
        x.addMember(0, 'B', 'z');
        x.addMember(0, 'B', 'a');
        x.addUse(0, 'B', 'a', 'B', 'z');
        x.addUse(0, 'B', 'a', 'B', 'a');
        int set = 1 | 1 << 25;
        Due.same("P33 members and uses", x.fingerprint(),
                mix('A', 0, 0, 'B', 'A', set, 2, 1, 0, 1, 7));
        x.addClass(1, 'Q');
        x.addMember(1, 'Q', 'q');
        Due.same("P33 version 1", x.fingerprint(),
                mix('A', 0, 0, 'B', 'A', set, 2, 1, 0, 1, 'Q', 0, 1 << 16, 0, 0, 7));
        x.clearLog();
        Due.same("P33 log", x.fingerprint(),
                mix('A', 0, 0, 'B', 'A', set, 2, 1, 0, 1, 'Q', 0, 1 << 16, 0, 0, 0));
    }
}
