/** Promise 13: a test for each sentence that names a boundary. */
public final class Boundary13KinTest {
    public static void main(String[] args) {
        Check check = new Check();
        noSuchMethod(check);
        none(check);
        ofItsName(check);
        inClassesBelow(check);
        thatMOverrides(check);
        eachOnce(check);
        asManyAsCanBe(check);
        asksOnly(check);
        check.end();
    }

    /** "-1" */
    private static void noSuchMethod(Check check) {
        ChooseTree x = new ChooseTree();
        check.due("no methods at all", x.kin(0), -1);
        Trees.small(x);
        check.due("the last", x.kin(5), 0);
        check.due("the next one", x.kin(6), -1);
        for (int odd : Trees.strange(0)) {
            check.due("kin(" + odd + ")", x.kin(odd), -1);
        }
        ChooseTree all = Trees.allMethods();
        check.due("method 399", all.kin(399), 12);
        check.due("method 400", all.kin(400), -1);
    }

    private static void none(Check check) {
        ChooseTree x = new ChooseTree();
        int c = Trees.type(x, 0, 0);
        int alone = Trees.method(x, c, 0, Trees.PUBLIC, Trees.PLAIN);
        int hidden = Trees.method(x, c, 1, Trees.PRIVATE, Trees.PLAIN);
        int fixed = Trees.method(x, c, 2, Trees.PUBLIC, Trees.STATIC);
        int low = Trees.type(x, c, 0);
        Trees.method(x, low, 1, Trees.PUBLIC, Trees.PLAIN);
        Trees.method(x, low, 2, Trees.PUBLIC, Trees.PLAIN);
        check.due("alone", x.kin(alone), 0);
        check.due("private", x.kin(hidden), 0);
        check.due("over a private one", x.kin(hidden + 2), 0);
        check.due("static", x.kin(fixed), 0);
        check.due("over a static one", x.kin(fixed + 2), 0);
    }

    /** "methods of its name" */
    private static void ofItsName(Check check) {
        ChooseTree x = new ChooseTree();
        int top = Trees.type(x, 0, 0);
        Trees.method(x, top, 0, Trees.PUBLIC, Trees.PLAIN);
        Trees.method(x, top, 31, Trees.PUBLIC, Trees.PLAIN);
        int low = Trees.type(x, top, 0);
        Trees.method(x, low, 31, Trees.PUBLIC, Trees.PLAIN);
        check.due("name 0", x.kin(0), 0);
        check.due("name 31", x.kin(1), 1);
        check.due("name 31 below", x.kin(2), 1);
    }

    /** "in classes below that of method m that override m" */
    private static void inClassesBelow(Check check) {
        ChooseTree x = new ChooseTree();
        int f = Trees.face(x);
        int mf = Trees.method(x, f, 0, Trees.PUBLIC, Trees.ABSTRACT);
        int top = Trees.type(x, 0, 1);
        int m = Trees.method(x, top, 0, Trees.OPEN, Trees.PLAIN);
        int low = Trees.type(x, top, 2, f);
        check.due("of a face: not one that its class below inherits", x.kin(mf), 0);
        int n = Trees.method(x, low, 0, Trees.OPEN, Trees.PLAIN);
        check.due("of a face: one in the class below", x.kin(mf), 1);
        check.due("open, with one elsewhere below", x.kin(m), 0);
        int near = Trees.type(x, low, 1);
        Trees.method(x, near, 0, Trees.OPEN, Trees.PLAIN);
        check.due("open, with one in its package below", x.kin(m), 1);
        check.due("open, with none in its package below", x.kin(n), 0);
        check.due("of a face: two below", x.kin(mf), 2);
    }

    /** "together with those of classes that m overrides" */
    private static void thatMOverrides(Check check) {
        ChooseTree x = new ChooseTree();
        int top = Trees.type(x, 0, 0);
        Trees.method(x, top, 0, Trees.OPEN, Trees.PLAIN);
        int between = Trees.type(x, top, 0);
        Trees.method(x, between, 0, Trees.PROTECTED, Trees.PLAIN);
        int low = Trees.type(x, between, 1);
        int m = Trees.method(x, low, 0, Trees.OPEN, Trees.PLAIN);
        check.due("through a chain: both", x.kin(m), 2);
        int far = Trees.type(x, low, 2);
        int n = Trees.method(x, far, 0, Trees.OPEN, Trees.PLAIN);
        check.due("not the open one of another package", x.kin(n), 2);
    }

    /** One that overrides m and that m overrides is one method. */
    private static void eachOnce(Check check) {
        ChooseTree x = Trees.pair(Trees.PUBLIC, Trees.PLAIN, 0, Trees.PUBLIC, Trees.PLAIN);
        check.due("both ways", x.overrides(0, 1) && x.overrides(1, 0), true);
        check.due("the upper", x.kin(0), 1);
        check.due("the lower", x.kin(1), 1);
    }

    /** One in each of the 59 classes. */
    private static void asManyAsCanBe(Check check) {
        ChooseTree x = new ChooseTree();
        for (int c = 1; c < 60; c++) {
            Trees.method(x, Trees.type(x, c - 1, 0), 0, Trees.PUBLIC, Trees.PLAIN);
        }
        for (int m = 0; m < 59; m++) {
            check.due("kin(" + m + ")", x.kin(m), 58);
        }
    }

    private static void asksOnly(Check check) {
        Untouched.due(check, "kin(3)", Trees::smallWithLast, x -> x.kin(3), 1);
        Untouched.due(check, "kin(7)", Trees::smallWithLast, x -> x.kin(7), -1);
    }
}
