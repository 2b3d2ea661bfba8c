/** Promise 11: a test for each sentence that names a boundary. */
public final class Boundary11ChooseTest {
    public static void main(String[] args) {
        Check check = new Check();
        classIsNoFace(check);
        notStatic(check);
        ofCOrAClassAbove(check);
        privateOne(check);
        firstInTheRow(check);
        justOneNearest(check);
        more(check);
        none(check);
        chosenIsAbstract(check);
        noSuchClass(check);
        noSuchMethod(check);
        asksOnly(check);
        check.end();
    }

    /** "class c (no face)" */
    private static void classIsNoFace(Check check) {
        ChooseTree x = new ChooseTree();
        Trees.small(x);
        check.due("a face and its own", x.choose(1, 0), -14);
        check.due("a face and one of a face above", x.choose(2, 0), -14);
        check.due("a class", x.choose(3, 0), 2);
        check.due("class 0, with methods of others", x.choose(0, 0), -14);
    }

    /** "method m (not static": private or not. */
    private static void notStatic(Check check) {
        ChooseTree x = new ChooseTree();
        int c = Trees.type(x, 0, 0);
        for (int sight = 0; sight <= 3; sight++) {
            int m = Trees.method(x, c, sight, sight, Trees.STATIC);
            check.due("static, sight " + sight, x.choose(c, m), -14);
            int n = Trees.method(x, c, 10 + sight, sight, Trees.STATIC + Trees.FINAL);
            check.due("static and final, sight " + sight, x.choose(c, n), -14);
            int good = Trees.method(x, c, 20 + sight, sight, Trees.FINAL);
            check.due("not static, sight " + sight, x.choose(c, good), good);
        }
    }

    /** "of c or a class above it)" */
    private static void ofCOrAClassAbove(Check check) {
        ChooseTree x = new ChooseTree();
        Trees.smallWithLast(x);
        int beside = Trees.type(x, 0, 1, 1);
        int own = Trees.method(x, beside, 1, Trees.PUBLIC, Trees.PLAIN);
        check.due("of c", x.choose(beside, own), own);
        check.due("of a face above", x.choose(beside, 0), 0);
        check.due("of a face that it is not below", x.choose(beside, 1), -14);
        check.due("of a class beside", x.choose(beside, 3), -14);
        check.due("a private one of a class beside", x.choose(beside, 5), -14);
        check.due("of a class below", x.choose(3, 6), -14);
        check.due("of a class above", x.choose(4, 3), 6);
        check.due("of the parent's face", x.choose(4, 1), 2);
    }

    /** "m private: m." Whatever has its name below. */
    private static void privateOne(Check check) {
        ChooseTree x = new ChooseTree();
        int top = Trees.type(x, 0, 0);
        int m = Trees.method(x, top, 0, Trees.PRIVATE, Trees.PLAIN);
        int low = Trees.type(x, top, 0);
        int n = Trees.method(x, low, 0, Trees.PUBLIC, Trees.ABSTRACT);
        int lowest = Trees.type(x, low, 0);
        int p = Trees.method(x, lowest, 0, Trees.PRIVATE, Trees.FINAL);
        check.due("its own class", x.choose(top, m), m);
        check.due("a class below with a public one", x.choose(low, m), m);
        check.due("two below", x.choose(lowest, m), m);
        check.due("a private one is passed", x.choose(lowest, n), -25);
        check.due("of c", x.choose(lowest, p), p);
    }

    /** "Else the first in c's row that is m or overrides m" */
    private static void firstInTheRow(Check check) {
        ChooseTree x = new ChooseTree();
        int f = Trees.face(x);
        int mf = Trees.method(x, f, 0, Trees.PUBLIC, Trees.PLAIN);
        int top = Trees.type(x, 0, 0);
        int m = Trees.method(x, top, 0, Trees.OPEN, Trees.PLAIN);
        int away = Trees.type(x, top, 1, f);
        int n = Trees.method(x, away, 0, Trees.OPEN, Trees.PLAIN);
        int fixed = Trees.type(x, away, 0);
        Trees.method(x, fixed, 0, Trees.PUBLIC, Trees.STATIC);
        check.due("m itself, behind one that does not override it", x.choose(away, m), m);
        check.due("a face's: the first", x.choose(away, mf), n);
        check.due("the static one is passed, m itself", x.choose(fixed, m), m);
        check.due("the static one is passed", x.choose(fixed, mf), n);
        int other = Trees.type(x, top, 5, f);
        check.due("a parent's, that is not below the face", x.choose(other, mf), m);
    }

    /** "else the nearest that is not abstract, if there is just one" */
    private static void justOneNearest(Check check) {
        ChooseTree x = threeFaces();
        check.due("alone", x.choose(Trees.type(x, 0, 0, 2), 1), 1);
        int first = Trees.type(x, 0, 0, 2, 1);
        check.due("before an abstract one", x.choose(first, 0), 1);
        check.due("before an abstract one, m itself", x.choose(first, 1), 1);
        check.due("behind an abstract one", x.choose(Trees.type(x, 0, 0, 1, 3), 0), 2);
        check.due("of the parent's faces", x.choose(Trees.type(x, first, 0), 0), 1);
        check.due("not one that is hidden", x.choose(Trees.type(x, 0, 0, 4, 2), 1), -25);
    }

    /** "-26 if there are more" */
    private static void more(Check check) {
        ChooseTree x = threeFaces();
        int two = Trees.type(x, 0, 0, 2, 3);
        check.due("two", x.choose(two, 1), -26);
        check.due("two, the other", x.choose(two, 2), -26);
        check.due("two and an abstract one", x.choose(Trees.type(x, two, 0, 1), 0), -26);
        int hidden = Trees.type(x, two, 0, 4);
        check.due("two, one of them hidden by an abstract one", x.choose(hidden, 1), 2);
        int c = Trees.type(x, two, 0);
        int m = Trees.method(x, c, 0, Trees.PUBLIC, Trees.PLAIN);
        check.due("two, but one in the row", x.choose(c, 1), m);
    }

    /** "-25 if there is none" */
    private static void none(Check check) {
        ChooseTree x = threeFaces();
        check.due("one abstract one", x.choose(Trees.type(x, 0, 0, 1), 0), -25);
        check.due("two abstract ones", x.choose(Trees.type(x, 0, 0, 1, 4), 3), -25);
        int c = Trees.type(x, 0, 0, 1);
        Trees.method(x, c, 0, Trees.PRIVATE, Trees.PLAIN);
        check.due("and a private one in the row", x.choose(c, 0), -25);
        int d = Trees.type(x, 0, 0, 1);
        Trees.method(x, d, 0, Trees.PUBLIC, Trees.STATIC);
        check.due("and a static one in the row", x.choose(d, 0), -25);
    }

    /** "-25 .. or what is chosen is abstract": nothing is looked for behind it. */
    private static void chosenIsAbstract(Check check) {
        ChooseTree x = threeFaces();
        int top = Trees.type(x, 0, 0, 2);
        int m = Trees.method(x, top, 0, Trees.PUBLIC, Trees.PLAIN);
        int low = Trees.type(x, top, 0);
        int n = Trees.method(x, low, 0, Trees.PUBLIC, Trees.ABSTRACT);
        check.due("m itself", x.choose(low, n), -25);
        check.due("one that overrides m", x.choose(low, m), -25);
        check.due("one before a face's that is not", x.choose(low, 1), -25);
        check.due("the class above", x.choose(top, m), m);
    }

    /** "-14": no such class. */
    private static void noSuchClass(Check check) {
        ChooseTree x = new ChooseTree();
        Trees.small(x);
        check.due("the next one", x.choose(5, 0), -14);
        for (int odd : Trees.strange(4)) {
            check.due("choose(" + odd + ", 0)", x.choose(odd, 0), -14);
            check.due("choose(" + odd + ", 5)", x.choose(odd, 5), -14);
        }
    }

    /** "-14": no such method. */
    private static void noSuchMethod(Check check) {
        ChooseTree x = new ChooseTree();
        check.due("no methods at all", x.choose(0, 0), -14);
        Trees.small(x);
        check.due("the next one", x.choose(4, 6), -14);
        for (int odd : Trees.strange(0)) {
            check.due("choose(4, " + odd + ")", x.choose(4, odd), -14);
        }
    }

    private static void asksOnly(Check check) {
        Untouched.due(check, "choose(4, 3)", Trees::smallWithLast, x -> x.choose(4, 3), 6);
        Untouched.due(check, "choose(4, 7)", Trees::smallWithLast, x -> x.choose(4, 7), -14);
    }

    /** Face 1 with abstract method 0; faces 2 and 3 with 1 and 2; face 4, below 2, with abstract 3. */
    private static ChooseTree threeFaces() {
        ChooseTree x = new ChooseTree();
        Trees.method(x, Trees.face(x), 0, Trees.PUBLIC, Trees.ABSTRACT);
        Trees.method(x, Trees.face(x), 0, Trees.PUBLIC, Trees.PLAIN);
        Trees.method(x, Trees.face(x), 0, Trees.PUBLIC, Trees.PLAIN);
        Trees.method(x, Trees.face(x, 2), 0, Trees.PUBLIC, Trees.ABSTRACT);
        return x;
    }
}
