/** Promise 6: face. */
public final class Promise06FaceTest {
    public static void main(String[] args) {
        Check check = new Check();
        order(check);
        parentsGoBehind(check);
        manyFaces(check);
        check.end();
    }

    private static void order(Check check) {
        ChooseTree x = new ChooseTree();
        int f = Trees.face(x);
        int g = Trees.face(x, f);
        int h = Trees.face(x);
        int k = Trees.face(x, h, f);
        facesAre(check, x, f);
        facesAre(check, x, g, f);
        facesAre(check, x, k, h, f);
        int c = Trees.type(x, 0, 0, k, g);
        facesAre(check, x, c, k, h, f, g);
        int d = Trees.type(x, c, 0);
        facesAre(check, x, d, k, h, f, g);
        facesAre(check, x, 0);
        for (int odd : Trees.ODD) {
            check.due("face(" + odd + ", 0)", x.face(odd, 0), -1);
            check.due("face(c, " + odd + ")", x.face(c, odd), -1);
        }
        check.due("not yet there", x.face(7, 0), -1);
    }

    private static void parentsGoBehind(Check check) {
        ChooseTree x = new ChooseTree();
        int f = Trees.face(x);
        int g = Trees.face(x, f);
        int h = Trees.face(x);
        int c = Trees.type(x, 0, 0, f, h);
        int d = Trees.type(x, c, 0);
        facesAre(check, x, d, f, h);
        x.implement(d, h);
        facesAre(check, x, d, h, f);
        x.implement(d, g);
        facesAre(check, x, d, h, g, f);
        facesAre(check, x, c, f, h);
        int e = Trees.type(x, d, 0);
        facesAre(check, x, e, h, g, f);
        x.implement(e, h);
        facesAre(check, x, e, h, g, f);
        x.implement(e, f);
        facesAre(check, x, e, h, f, g);
    }

    /** As many faces as there can be: 58 for the last one. */
    private static void manyFaces(Check check) {
        ChooseTree x = Trees.longestFaces();
        int[] want = new int[58];
        for (int i = 0; i < want.length; i++) {
            want[i] = 58 - i;
        }
        facesAre(check, x, 59, want);
    }

    private static void facesAre(Check check, ChooseTree x, int c, int... faces) {
        for (int i = 0; i < faces.length; i++) {
            check.due("face(" + c + ", " + i + ")", x.face(c, i), faces[i]);
        }
        check.due("face(" + c + ", " + faces.length + ")", x.face(c, faces.length), -1);
        check.due("face(" + c + ", -1)", x.face(c, -1), -1);
    }
}
