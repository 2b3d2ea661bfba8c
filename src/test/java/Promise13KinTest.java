/** Promise 13: kin. */
public final class Promise13KinTest {
    public static void main(String[] args) {
        Check check = new Check();
        rows(check);
        packages(check);
        faces(check);
        wrong(check);
        check.end();
    }

    private static void rows(Check check) {
        ChooseTree x = new ChooseTree();
        int top = Trees.type(x, 0, 0);
        int a = Trees.method(x, top, 0, Trees.PUBLIC, Trees.PLAIN);
        int alone = Trees.method(x, top, 1, Trees.PUBLIC, Trees.PLAIN);
        int between = Trees.type(x, top, 0);
        int b = Trees.method(x, between, 0, Trees.PUBLIC, Trees.PLAIN);
        int low = Trees.type(x, between, 0);
        int c = Trees.method(x, low, 0, Trees.PUBLIC, Trees.PLAIN);
        int hidden = Trees.method(x, Trees.type(x, low, 0), 0, Trees.PRIVATE, Trees.PLAIN);
        int fixed = Trees.method(x, Trees.type(x, low, 0), 0, Trees.PUBLIC, Trees.STATIC);
        check.due("top", x.kin(a), 2);
        check.due("between", x.kin(b), 2);
        check.due("low", x.kin(c), 2);
        check.due("another name", x.kin(alone), 0);
        check.due("private", x.kin(hidden), 0);
        check.due("static", x.kin(fixed), 0);
    }

    private static void packages(Check check) {
        ChooseTree x = new ChooseTree();
        int top = Trees.type(x, 0, 0);
        int a = Trees.method(x, top, 0, Trees.OPEN, Trees.PLAIN);
        int away = Trees.type(x, top, 1);
        int b = Trees.method(x, away, 0, Trees.OPEN, Trees.PLAIN);
        int back = Trees.type(x, away, 0);
        int c = Trees.method(x, back, 0, Trees.OPEN, Trees.PLAIN);
        check.due("top", x.kin(a), 1);
        check.due("away", x.kin(b), 0);
        check.due("back", x.kin(c), 1);
    }

    /** m's own overriding counts methods of classes, not of faces, wherever the class lies. */
    private static void faces(Check check) {
        ChooseTree x = new ChooseTree();
        int f = Trees.face(x);
        int mf = Trees.method(x, f, 0, Trees.PUBLIC, Trees.PLAIN);
        int g = Trees.face(x, f);
        int mg = Trees.method(x, g, 0, Trees.PUBLIC, Trees.PLAIN);
        check.due("a face's below", x.kin(mf), 1);
        check.due("a face's above does not count", x.kin(mg), 0);
        int c = Trees.type(x, 0, 0, g);
        int mc = Trees.method(x, c, 0, Trees.OPEN, Trees.PLAIN);
        check.due("a face's and a class's below", x.kin(mf), 2);
        check.due("of a class below", x.kin(mg), 1);
        check.due("faces above do not count", x.kin(mc), 0);
        int beside = Trees.type(x, 0, 1);
        int mb = Trees.method(x, beside, 0, Trees.PUBLIC, Trees.PLAIN);
        check.due("a public one of a class beside", x.kin(mc), 1);
        check.due("an open one of another package", x.kin(mb), 0);
    }

    private static void wrong(Check check) {
        ChooseTree x = new ChooseTree();
        check.due("none there", x.kin(0), -1);
        int c = Trees.type(x, 0, 0);
        Trees.method(x, c, 0, Trees.PUBLIC, Trees.PLAIN);
        check.due("the only one", x.kin(0), 0);
        check.due("not yet there", x.kin(1), -1);
        for (int odd : Trees.ODD) {
            check.due("kin(" + odd + ")", x.kin(odd), -1);
        }
    }
}
