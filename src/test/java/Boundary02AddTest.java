/** Promise 2: a test for each sentence that names a boundary. */
public final class Boundary02AddTest {
    public static void main(String[] args) {
        Check check = new Check();
        itsNumber(check);
        noSuchParent(check);
        parentIsAFace(check);
        noSuchPackage(check);
        noSuchKind(check);
        faceWithAParent(check);
        thereAre60(check);
        thereAre60WithFaces(check);
        whichRefusal(check);
        refusedChangesNothing(check);
        check.end();
    }

    /** "A new class: its number; kind 0 a class, 1 a face." */
    private static void itsNumber(Check check) {
        ChooseTree x = new ChooseTree();
        check.due("a class", x.add(0, 0, 0), 1);
        check.due("a face", x.add(0, 9, 1), 2);
        check.due("kind 0 is a class: a parent", x.add(1, 9, 0), 3);
        check.due("kind 0 is a class: not implemented", x.implement(3, 1), -14);
        check.due("kind 1 is a face: implemented", x.implement(3, 2), 1);
        check.due("kind 1 is a face: no parent", x.add(2, 0, 0), -14);
        check.due("the latest class as parent", x.add(3, 0, 0), 4);
    }

    /** "-14 no such parent" */
    private static void noSuchParent(Check check) {
        ChooseTree x = new ChooseTree();
        check.due("the new one itself, at the beginning", x.add(1, 0, 0), -14);
        Trees.type(x, 0, 0);
        check.due("the new one itself", x.add(2, 0, 0), -14);
        check.due("one after it", x.add(3, 0, 0), -14);
        check.due("-1", x.add(-1, 0, 0), -14);
        for (int odd : Trees.strange(1)) {
            check.due("parent " + odd, x.add(odd, 0, 0), -14);
            check.due("parent " + odd + " of a face", x.add(odd, 0, 1), -14);
        }
    }

    /** "(or a face)" */
    private static void parentIsAFace(Check check) {
        ChooseTree x = new ChooseTree();
        int f = Trees.face(x);
        check.due("a class below a face", x.add(f, 0, 0), -14);
        check.due("a face below a face", x.add(f, 0, 1), -14);
    }

    /** "-1 no such package": 0 .. 9 there are. */
    private static void noSuchPackage(Check check) {
        ChooseTree x = new ChooseTree();
        check.due("package 0", x.add(0, 0, 0), 1);
        check.due("package 9", x.add(0, 9, 0), 2);
        check.due("package -1", x.add(0, -1, 0), -1);
        check.due("package 10", x.add(0, 10, 0), -1);
        check.due("package 10 of a face", x.add(0, 10, 1), -1);
        for (int odd : Trees.strange(9)) {
            check.due("package " + odd, x.add(0, odd, 0), -1);
        }
    }

    /** "-1 no such .. kind": 0 and 1 there are. */
    private static void noSuchKind(Check check) {
        ChooseTree x = new ChooseTree();
        check.due("kind 0", x.add(0, 0, 0), 1);
        check.due("kind 1", x.add(0, 0, 1), 2);
        check.due("kind -1", x.add(0, 0, -1), -1);
        check.due("kind 2", x.add(0, 0, 2), -1);
        check.due("kind 3", x.add(0, 0, 3), -1);
        for (int odd : Trees.strange(1)) {
            check.due("kind " + odd, x.add(0, 0, odd), -1);
        }
    }

    /** "-1 .. a face with a parent not 0" */
    private static void faceWithAParent(Check check) {
        ChooseTree x = new ChooseTree();
        int c = Trees.type(x, 0, 0);
        check.due("below class 1", x.add(c, 0, 1), -1);
        check.due("below class 0", x.add(0, 0, 1), 2);
        check.due("a class below class 1", x.add(c, 0, 0), 3);
    }

    /** "-12 there are 60": 59 beside class 0. */
    private static void thereAre60(Check check) {
        ChooseTree x = new ChooseTree();
        for (int c = 1; c < 60; c++) {
            check.due("class " + c, x.add(c - 1, 0, 0), c);
        }
        for (int time = 0; time < 3; time++) {
            check.due("a class too many", x.add(0, 0, 0), -12);
            check.due("a face too many", x.add(0, 0, 1), -12);
            check.due("a class too many below the last", x.add(59, 0, 0), -12);
        }
        check.due("class 60 is not there", x.isBelow(60, 0), false);
        check.due("nor found", x.find(60, 0), -14);
        check.due("nor a parent", x.add(60, 0, 0), -14);
        check.due("the last is the latest still", x.method(59, 0, 1, 0), 0);
    }

    /** Faces count among the 60, and what was refused does not. */
    private static void thereAre60WithFaces(Check check) {
        ChooseTree x = new ChooseTree();
        for (int c = 1; c < 60; c++) {
            check.due("refused before " + c, x.add(0, 10, c % 2), -1);
            check.due("number " + c, x.add(0, 9, c % 2), c);
        }
        check.due("a face too many", x.add(0, 0, 1), -12);
        check.due("a class too many", x.add(0, 0, 0), -12);
        check.due("the last is a face", x.add(59, 0, 0), -14);
        check.due("the last implements one", x.implement(59, 57), 1);
    }

    /** Where more than one holds, the first that the document names. */
    private static void whichRefusal(Check check) {
        ChooseTree x = new ChooseTree();
        int f = Trees.face(x);
        check.due("no parent, no package", x.add(9, 10, 0), -14);
        check.due("no parent, no kind", x.add(-1, 0, 2), -14);
        check.due("a face as parent, no package", x.add(f, -1, 0), -14);
        check.due("a face as a face's parent", x.add(f, 0, 1), -14);
        ChooseTree full = Trees.longestRow();
        check.due("full, no parent", full.add(60, 0, 0), -14);
        check.due("full, no package", full.add(0, 10, 0), -1);
        check.due("full, no kind", full.add(0, 0, 2), -1);
        check.due("full, a face with a parent", full.add(1, 0, 1), -1);
    }

    private static void refusedChangesNothing(Check check) {
        Untouched.due(check, "no parent", Trees::small, x -> x.add(5, 0, 0), -14);
        Untouched.due(check, "a face as parent", Trees::small, x -> x.add(2, 0, 0), -14);
        Untouched.due(check, "no package", Trees::small, x -> x.add(3, 10, 0), -1);
        Untouched.due(check, "no kind", Trees::small, x -> x.add(0, 0, 2), -1);
        Untouched.due(check, "a face with a parent", Trees::smallWithLast, x -> x.add(3, 0, 1), -1);
    }
}
