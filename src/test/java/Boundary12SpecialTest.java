/** Promise 12: a test for each sentence that names a boundary. */
public final class Boundary12SpecialTest {
    public static void main(String[] args) {
        Check check = new Check();
        noFaces(check);
        foundIsPrivate(check);
        notBelow(check);
        isC(check);
        fromItsParentOn(check);
        firstNotStatic(check);
        justOneNearest(check);
        methodZero(check);
        none(check);
        isAbstract(check);
        findAnswersNone(check);
        foundIsStatic(check);
        noSuchClasses(check);
        whichRefusal(check);
        asksOnly(check);
        check.end();
    }

    /** "in class d (no face)", "in class c (no face)" */
    private static void noFaces(Check check) {
        ChooseTree x = new ChooseTree();
        Trees.small(x);
        check.due("d a face", x.special(1, 3, 0), -14);
        check.due("c a face", x.special(3, 1, 0), -14);
        check.due("both one face", x.special(1, 1, 0), -14);
        check.due("none a face", x.special(3, 3, 0), 2);
    }

    /** "if that is private .. from c on" */
    private static void foundIsPrivate(Check check) {
        ChooseTree x = new ChooseTree();
        int top = Trees.type(x, 0, 0);
        int m = Trees.method(x, top, 0, Trees.PRIVATE, Trees.PLAIN);
        int empty = Trees.type(x, top, 0);
        int between = Trees.type(x, empty, 0);
        int n = Trees.method(x, between, 0, Trees.PUBLIC, Trees.PLAIN);
        int low = Trees.type(x, between, 0);
        check.due("private in c", x.special(low, top, 0), m);
        check.due("private above c", x.special(low, empty, 0), m);
        check.due("not private in c", x.special(low, between, 0), n);
        check.due("d is c", x.special(top, top, 0), m);
    }

    /** "or d is not below c": above it, beside it, class 0. */
    private static void notBelow(Check check) {
        ChooseTree x = row();
        int beside = Trees.type(x, 1, 0);
        Trees.method(x, beside, 0, Trees.PUBLIC, Trees.PLAIN);
        check.due("d above c", x.special(1, 3, 0), 2);
        check.due("d is c's parent", x.special(2, 3, 0), 2);
        check.due("d beside c", x.special(beside, 2, 0), 1);
        check.due("d is class 0", x.special(0, 3, 0), 2);
    }

    /** "(or is c)" */
    private static void isC(Check check) {
        ChooseTree x = row();
        for (int c = 1; c <= 3; c++) {
            check.due("d and c are " + c, x.special(c, c, 0), c - 1);
        }
    }

    /** "else from d's parent on" */
    private static void fromItsParentOn(Check check) {
        ChooseTree x = row();
        check.due("two below c", x.special(3, 1, 0), 1);
        check.due("its parent is c", x.special(3, 2, 0), 1);
        check.due("its parent is c, at the top", x.special(2, 1, 0), 0);
        int last = Trees.type(x, 3, 0);
        Trees.method(x, last, 0, Trees.PRIVATE, Trees.PLAIN);
        check.due("c has one only in its row", x.special(last, 1, 0), 2);
        int behind = Trees.type(x, last, 0);
        check.due("a private one of d's parent", x.special(behind, 1, 0), 3);
    }

    /** "the first in that one's row that is not static" */
    private static void firstNotStatic(Check check) {
        ChooseTree x = row();
        int fixed = Trees.type(x, 3, 0);
        Trees.method(x, fixed, 0, Trees.PUBLIC, Trees.STATIC);
        int low = Trees.type(x, fixed, 0);
        check.due("the static one is passed", x.special(low, 1, 0), 2);
        int f = Trees.face(x);
        int mf = Trees.method(x, f, 1, Trees.PUBLIC, Trees.PLAIN);
        int top = Trees.type(x, 0, 0, f);
        int between = Trees.type(x, top, 0);
        Trees.method(x, between, 1, Trees.PRIVATE, Trees.STATIC);
        int lowest = Trees.type(x, between, 0);
        check.due("only a static one: the nearest", x.special(lowest, top, 1), mf);
    }

    /** "else the nearest of it that is not abstract, if there is just one" */
    private static void justOneNearest(Check check) {
        ChooseTree x = faces();
        int top = Trees.type(x, 0, 0, 2);
        int low = Trees.type(x, top, 0, 1);
        int lowest = Trees.type(x, low, 0, 3);
        int last = Trees.type(x, lowest, 0);
        check.due("of c", x.special(top, top, 0), 1);
        check.due("of c, d not below it", x.special(0, low, 0), 1);
        check.due("of d's parent, not of d", x.special(lowest, top, 0), 1);
        check.due("more than one of d's parent", x.special(last, top, 0), -25);
        check.due("more than one of c", x.special(lowest, lowest, 0), -25);
    }

    /** Method 0 is a method as any other. */
    private static void methodZero(Check check) {
        ChooseTree x = new ChooseTree();
        int zero = Trees.method(x, Trees.face(x), 0, Trees.PUBLIC, Trees.PLAIN);
        Trees.method(x, Trees.face(x), 0, Trees.PUBLIC, Trees.ABSTRACT);
        int c = Trees.type(x, 0, 0, 2, 1);
        check.due("the one that is not abstract", x.special(c, c, 0), zero);
        check.due("of d's parent", x.special(Trees.type(x, c, 0), c, 0), zero);
    }

    /** "-25 if there is none" */
    private static void none(Check check) {
        ChooseTree x = faces();
        int top = Trees.type(x, 0, 0, 1);
        int low = Trees.type(x, top, 0, 2);
        check.due("one abstract nearest", x.special(top, top, 0), -25);
        check.due("one abstract nearest of d's parent", x.special(low, top, 0), -25);
        check.due("one that is not", x.special(low, low, 0), 1);
    }

    /** "-25 .. or it is abstract": nothing is looked for behind it. */
    private static void isAbstract(Check check) {
        ChooseTree x = faces();
        int top = Trees.type(x, 0, 0, 2);
        Trees.method(x, top, 0, Trees.PUBLIC, Trees.PLAIN);
        int low = Trees.type(x, top, 0, 3);
        Trees.method(x, low, 0, Trees.PUBLIC, Trees.ABSTRACT);
        int lowest = Trees.type(x, low, 0);
        check.due("in c", x.special(low, low, 0), -25);
        check.due("in d's parent", x.special(lowest, top, 0), -25);
        check.due("the parent's", x.special(low, top, 0), 3);
    }

    /** "-12 find() answers none" */
    private static void findAnswersNone(Check check) {
        ChooseTree x = new ChooseTree();
        check.due("class 0", x.special(0, 0, 0), -12);
        Trees.smallWithLast(x);
        check.due("c class 0", x.special(4, 0, 0), -12);
        check.due("d has it, c does not", x.special(4, 3, 31), -12);
        check.due("name -1", x.special(4, 3, -1), -12);
        check.due("name 32", x.special(4, 3, 32), -12);
        for (int odd : Trees.strange(1)) {
            check.due("special(4, 3, " + odd + ")", x.special(4, 3, odd), -12);
        }
        int low = Trees.type(x, 4, 0);
        Trees.method(x, low, 31, Trees.PUBLIC, Trees.PLAIN);
        check.due("only d has it", x.special(low, 4, 31), -12);
    }

    /** "-21 what it answers is static" */
    private static void foundIsStatic(Check check) {
        for (int sight = 0; sight <= 3; sight++) {
            ChooseTree x = new ChooseTree();
            int top = Trees.type(x, 0, 0);
            int m = Trees.method(x, top, 0, Trees.PUBLIC, Trees.PLAIN);
            int low = Trees.type(x, top, 0);
            Trees.method(x, low, 0, sight, Trees.STATIC);
            int lowest = Trees.type(x, low, 0);
            check.due("in c, sight " + sight, x.special(low, low, 0), -21);
            check.due("in c, d below, sight " + sight, x.special(lowest, low, 0), -21);
            check.due("above c, sight " + sight, x.special(lowest, lowest, 0), -21);
            check.due("not in c, sight " + sight, x.special(lowest, top, 0), m);
        }
    }

    /** "-14": no such classes. */
    private static void noSuchClasses(Check check) {
        ChooseTree x = row();
        check.due("d the next one", x.special(4, 1, 0), -14);
        check.due("c the next one", x.special(3, 4, 0), -14);
        check.due("both the next one", x.special(4, 4, 0), -14);
        for (int odd : Trees.strange(3)) {
            check.due("special(" + odd + ", 1, 0)", x.special(odd, 1, 0), -14);
            check.due("special(3, " + odd + ", 0)", x.special(3, odd, 0), -14);
            check.due("special(" + odd + ", itself, 0)", x.special(odd, odd, 0), -14);
        }
    }

    /** Classes that are not there have no method to find: -14 goes before the others. */
    private static void whichRefusal(Check check) {
        ChooseTree x = new ChooseTree();
        Trees.small(x);
        check.due("no d, find answers none", x.special(5, 3, 31), -14);
        check.due("no d, no name", x.special(-1, 3, 32), -14);
        check.due("d a face, find answers none", x.special(1, 3, 31), -14);
        check.due("d a face, what is found is static", x.special(1, 3, 2), -14);
        check.due("c a face, find answers none", x.special(3, 1, 31), -14);
        check.due("find answers none", x.special(3, 3, 31), -12);
        check.due("what is found is static", x.special(3, 3, 2), -21);
    }

    private static void asksOnly(Check check) {
        Untouched.due(check, "special(4, 3, 1)", Trees::smallWithLast, x -> x.special(4, 3, 1), 3);
        Untouched.due(check, "special(4, 3, 2)", Trees::smallWithLast, x -> x.special(4, 3, 2), -21);
        Untouched.due(check, "special(4, 3, 31)", Trees::small, x -> x.special(4, 3, 31), -12);
        Untouched.due(check, "special(5, 3, 1)", Trees::small, x -> x.special(5, 3, 1), -14);
    }

    /** Classes 1, 2 and 3, each the parent of the next, with public methods 0, 1 and 2 of name 0. */
    private static ChooseTree row() {
        ChooseTree x = new ChooseTree();
        for (int c = 1; c <= 3; c++) {
            Trees.method(x, Trees.type(x, c - 1, 0), 0, Trees.PUBLIC, Trees.PLAIN);
        }
        return x;
    }

    /** Face 1 with abstract method 0, faces 2 and 3 with methods 1 and 2, all of name 0. */
    private static ChooseTree faces() {
        ChooseTree x = new ChooseTree();
        Trees.method(x, Trees.face(x), 0, Trees.PUBLIC, Trees.ABSTRACT);
        Trees.method(x, Trees.face(x), 0, Trees.PUBLIC, Trees.PLAIN);
        Trees.method(x, Trees.face(x), 0, Trees.PUBLIC, Trees.PLAIN);
        return x;
    }
}
