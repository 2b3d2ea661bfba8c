/** Promise 8: a test for each sentence that names a boundary. */
public final class Boundary08BrokenTest {
    public static void main(String[] args) {
        Check check = new Check();
        firstInOrder(check);
        ofItsOwnMethods(check);
        overridesAFinalOne(check);
        inTheRowOfItsParents(check);
        noneAtAll(check);
        noSuchClass(check);
        theLast(check);
        asksOnly(check);
        check.end();
    }

    /** "The first of c's methods, in order": of numbers, not of names nor of parents. */
    private static void firstInOrder(Check check) {
        ChooseTree x = new ChooseTree();
        int top = Trees.type(x, 0, 0);
        Trees.method(x, top, 9, Trees.PUBLIC, Trees.FINAL);
        int next = Trees.type(x, top, 0);
        Trees.method(x, next, 3, Trees.PUBLIC, Trees.FINAL);
        int low = Trees.type(x, next, 0);
        Trees.method(x, low, 5, Trees.PUBLIC, Trees.PLAIN);
        int first = Trees.method(x, low, 9, Trees.PUBLIC, Trees.PLAIN);
        Trees.method(x, low, 3, Trees.PUBLIC, Trees.PLAIN);
        check.due("the first of two", x.broken(low), first);
    }

    private static void ofItsOwnMethods(Check check) {
        ChooseTree x = new ChooseTree();
        Trees.smallWithLast(x);
        int low = Trees.type(x, 4, 0);
        check.due("its own", x.broken(4), 6);
        check.due("not its parent's", x.broken(low), -1);
        check.due("not its child's", x.broken(3), -1);
    }

    /** "that overrides a final one" */
    private static void overridesAFinalOne(Check check) {
        for (int sight = 0; sight <= 3; sight++) {
            for (int kind = 0; kind <= 3; kind++) {
                boolean bad = kind == 2 && (sight == 1 || sight == 2);
                ChooseTree x = Trees.pair(sight, kind, 1, 1, 0);
                check.due("above: sight " + sight + ", kind " + kind, x.broken(2), bad ? 1 : -1);
            }
        }
        check.due("by a static one", Trees.pair(1, 2, 0, 1, 1).broken(2), -1);
        check.due("by a private one", Trees.pair(1, 2, 0, 3, 0).broken(2), -1);
        check.due("by a final one", Trees.pair(1, 2, 0, 1, 2).broken(2), 1);
        check.due("by an abstract one", Trees.pair(1, 2, 0, 1, 4).broken(2), 1);
        check.due("an open one in one package", Trees.pair(0, 2, 0, 0, 0).broken(2), 1);
    }

    /** "in the row of its parents": any of them, none beside. */
    private static void inTheRowOfItsParents(Check check) {
        ChooseTree x = new ChooseTree();
        int top = Trees.type(x, 0, 0);
        Trees.method(x, top, 0, Trees.PUBLIC, Trees.FINAL);
        int between = Trees.type(x, top, 0);
        int m = Trees.method(x, between, 0, Trees.PUBLIC, Trees.PLAIN);
        int low = Trees.type(x, between, 0);
        int n = Trees.method(x, low, 0, Trees.PUBLIC, Trees.PLAIN);
        int beside = Trees.type(x, 0, 0);
        Trees.method(x, beside, 0, Trees.PUBLIC, Trees.PLAIN);
        check.due("the nearest parent's", x.broken(between), m);
        check.due("a farther parent's, behind one that is not final", x.broken(low), n);
        check.due("one beside", x.broken(beside), -1);
        check.due("the one that is final", x.broken(top), -1);
    }

    /** "-1 if there is none" */
    private static void noneAtAll(Check check) {
        ChooseTree x = new ChooseTree();
        check.due("class 0", x.broken(0), -1);
        Trees.small(x);
        check.due("a face", x.broken(1), -1);
        check.due("a face below one", x.broken(2), -1);
        check.due("without methods", x.broken(4), -1);
        check.due("class 0 with others", x.broken(0), -1);
    }

    private static void noSuchClass(Check check) {
        ChooseTree x = new ChooseTree();
        Trees.smallWithLast(x);
        check.due("the next one", x.broken(5), -1);
        for (int odd : Trees.strange(4)) {
            check.due("broken(" + odd + ")", x.broken(odd), -1);
        }
    }

    /** The 400th method, over one in class 1. */
    private static void theLast(Check check) {
        ChooseTree x = new ChooseTree();
        for (int m = 0; m < 400; m++) {
            if (m % 32 == 0) {
                Trees.type(x, m / 32, 0);
            }
            Trees.method(x, m / 32 + 1, m % 32, Trees.PUBLIC, m == 15 ? Trees.FINAL : Trees.PLAIN);
        }
        check.due("method 399 is the first of class 13", x.broken(13), 399);
        check.due("method 47 is the first of class 2", x.broken(2), 47);
        check.due("none of class 1", x.broken(1), -1);
    }

    private static void asksOnly(Check check) {
        Untouched.due(check, "broken(4)", Trees::smallWithLast, x -> x.broken(4), 6);
        Untouched.due(check, "broken(5)", Trees::smallWithLast, x -> x.broken(5), -1);
    }
}
