/** Promise 6: a test for each sentence that names a boundary. */
public final class Boundary06FaceTest {
    public static void main(String[] args) {
        Check check = new Check();
        firstAndLast(check);
        noneAtAll(check);
        noSuchClass(check);
        noSuchIndex(check);
        asManyAsCanBe(check);
        asksOnly(check);
        check.end();
    }

    /** "The i-th of c's FACES", from 0; "-1 if there is none". */
    private static void firstAndLast(Check check) {
        ChooseTree x = new ChooseTree();
        int f = Trees.face(x);
        int g = Trees.face(x);
        int c = Trees.type(x, 0, 0, g, f);
        check.due("before the first", x.face(c, -1), -1);
        check.due("the first", x.face(c, 0), g);
        check.due("the last", x.face(c, 1), f);
        check.due("behind the last", x.face(c, 2), -1);
        int d = Trees.type(x, 0, 0, f);
        check.due("behind the last, though the list goes on", x.face(c, 2), -1);
        check.due("before the first, though a list is before", x.face(d, -1), -1);
    }

    private static void noneAtAll(Check check) {
        ChooseTree x = new ChooseTree();
        check.due("class 0", x.face(0, 0), -1);
        int f = Trees.face(x);
        check.due("a face has not itself", x.face(f, 0), -1);
        int c = Trees.type(x, 0, 0);
        check.due("a class without", x.face(c, 0), -1);
    }

    private static void noSuchClass(Check check) {
        ChooseTree x = new ChooseTree();
        Trees.small(x);
        check.due("the next one", x.face(5, 0), -1);
        for (int odd : Trees.strange(3)) {
            check.due("face(" + odd + ", 0)", x.face(odd, 0), -1);
            check.due("face(" + odd + ", itself)", x.face(odd, odd), -1);
        }
    }

    /** Too small, too large, and where adding to the index would wrap around. */
    private static void noSuchIndex(Check check) {
        ChooseTree x = new ChooseTree();
        Trees.small(x);
        for (int c = 0; c <= 4; c++) {
            for (int odd : Trees.strange(0)) {
                check.due("face(" + c + ", " + odd + ")", x.face(c, odd), -1);
            }
        }
    }

    /** 58 FACES of the last class, those of every class as many as can be. */
    private static void asManyAsCanBe(Check check) {
        for (int c = 1; c < 60; c++) {
            ChooseTree x = Trees.longestFaces();
            for (int i = 0; i < c - 1; i++) {
                check.due("face(" + c + ", " + i + ")", x.face(c, i), c - 1 - i);
            }
            check.due("face(" + c + ", " + (c - 1) + ")", x.face(c, c - 1), -1);
        }
    }

    private static void asksOnly(Check check) {
        Untouched.due(check, "face(4, 1)", Trees::small, x -> x.face(4, 1), 2);
        Untouched.due(check, "face(4, 2)", Trees::small, x -> x.face(4, 2), -1);
        Untouched.due(check, "face(5, 0)", Trees::small, x -> x.face(5, 0), -1);
    }
}
