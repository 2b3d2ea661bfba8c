/** Promise 10: a test for each sentence that names a boundary. */
public final class Boundary10FindTest {
    public static void main(String[] args) {
        Check check = new Check();
        firstInTheRow(check);
        justOneNotAbstract(check);
        methodZero(check);
        firstOfTheFaces(check);
        none(check);
        noSuchName(check);
        noSuchClass(check);
        theLast(check);
        asksOnly(check);
        check.end();
    }

    /** "the first of that name in c's row": of any sight and kind, before all faces. */
    private static void firstInTheRow(Check check) {
        for (int sight = 0; sight <= 3; sight++) {
            for (int kind = 0; kind <= 4; kind++) {
                if (sight == 3 && kind == 4) {
                    continue;
                }
                ChooseTree x = new ChooseTree();
                int f = Trees.face(x);
                Trees.method(x, f, 0, Trees.PUBLIC, Trees.PLAIN);
                int top = Trees.type(x, 0, 0, f);
                int m = Trees.method(x, top, 0, sight, kind);
                int low = Trees.type(x, top, 1, f);
                String what = "sight " + sight + ", kind " + kind;
                check.due("its own of " + what, x.find(top, 0), m);
                check.due("its parent's of " + what, x.find(low, 0), m);
            }
        }
    }

    /** "else, of the nearest, the one that is not abstract, if there is just one" */
    private static void justOneNotAbstract(Check check) {
        ChooseTree x = new ChooseTree();
        int one = Trees.method(x, Trees.face(x), 0, Trees.PUBLIC, Trees.ABSTRACT);
        Trees.method(x, Trees.face(x), 0, Trees.PUBLIC, Trees.ABSTRACT);
        int three = Trees.method(x, Trees.face(x), 0, Trees.PUBLIC, Trees.PLAIN);
        int four = Trees.method(x, Trees.face(x), 0, Trees.PUBLIC, Trees.PLAIN);
        check.due("none: the first", x.find(Trees.type(x, 0, 0, 1, 2), 0), one);
        check.due("one, the last", x.find(Trees.type(x, 0, 0, 1, 2, 3), 0), three);
        check.due("one, the first", x.find(Trees.type(x, 0, 0, 4, 2, 1), 0), four);
        check.due("one alone", x.find(Trees.type(x, 0, 0, 4), 0), four);
        check.due("two: the first", x.find(Trees.type(x, 0, 0, 1, 3, 4), 0), one);
        check.due("two: the first, not abstract", x.find(Trees.type(x, 0, 0, 4, 1, 3), 0), four);
        int both = Trees.face(x, 2, 3);
        check.due("one, of a face", x.find(both, 0), three);
    }

    /** Method 0 is a method as any other. */
    private static void methodZero(Check check) {
        ChooseTree x = new ChooseTree();
        int zero = Trees.method(x, Trees.face(x), 0, Trees.PUBLIC, Trees.PLAIN);
        Trees.method(x, Trees.face(x), 0, Trees.PUBLIC, Trees.ABSTRACT);
        check.due("the one that is not abstract", x.find(Trees.type(x, 0, 0, 2, 1), 0), zero);
        ChooseTree y = new ChooseTree();
        int c = Trees.type(y, 0, 0);
        int first = Trees.method(y, c, 0, Trees.PUBLIC, Trees.PLAIN);
        check.due("in the row", y.find(Trees.type(y, c, 0), 0), first);
    }

    /** "else the first that one of c's FACES has, in their order": nearest or not. */
    private static void firstOfTheFaces(Check check) {
        ChooseTree x = new ChooseTree();
        int f = Trees.face(x);
        int mf = Trees.method(x, f, 0, Trees.PUBLIC, Trees.PLAIN);
        int g = Trees.face(x, f);
        int mg = Trees.method(x, g, 0, Trees.PUBLIC, Trees.ABSTRACT);
        int empty = Trees.face(x);
        check.due("one that is hidden", x.find(Trees.type(x, 0, 0, f, g), 0), mf);
        check.due("behind one without the name", x.find(Trees.type(x, 0, 0, empty, g), 0), mg);
        int top = Trees.type(x, 0, 0, f);
        check.due("its own before the parent's", x.find(Trees.type(x, top, 0, g), 0), mg);
    }

    /** "-1 if there is none" */
    private static void none(Check check) {
        ChooseTree x = new ChooseTree();
        check.due("class 0", x.find(0, 0), -1);
        Trees.small(x);
        check.due("class 0 with others", x.find(0, 0), -1);
        check.due("a face", x.find(1, 1), -1);
        check.due("a class", x.find(4, 31), -1);
        int beside = Trees.type(x, 0, 1);
        check.due("one that only another class has", x.find(beside, 1), -1);
        check.due("one that only a class below has", x.find(2, 1), -1);
    }

    /** No method has such a name, so there is none. */
    private static void noSuchName(Check check) {
        ChooseTree x = new ChooseTree();
        Trees.small(x);
        check.due("name -1", x.find(4, -1), -1);
        check.due("name 32", x.find(4, 32), -1);
        for (int odd : Trees.strange(0)) {
            check.due("find(4, " + odd + ")", x.find(4, odd), -1);
            check.due("find(2, " + odd + ")", x.find(2, odd), -1);
        }
    }

    /** "-14" */
    private static void noSuchClass(Check check) {
        ChooseTree x = new ChooseTree();
        check.due("class 1 at the beginning", x.find(1, 0), -14);
        Trees.small(x);
        check.due("the next one", x.find(5, 0), -14);
        check.due("the next one, no name", x.find(5, 32), -14);
        for (int odd : Trees.strange(4)) {
            check.due("find(" + odd + ", 0)", x.find(odd, 0), -14);
            check.due("find(" + odd + ", 32)", x.find(odd, 32), -14);
        }
    }

    private static void theLast(Check check) {
        ChooseTree x = Trees.allMethods();
        check.due("method 0", x.find(1, 0), 0);
        check.due("method 31", x.find(1, 31), 31);
        check.due("method 32", x.find(2, 0), 32);
        check.due("method 399", x.find(13, 15), 399);
        check.due("behind the last: its parent's", x.find(13, 16), 368);
        check.due("class 14", x.find(14, 0), -14);
    }

    private static void asksOnly(Check check) {
        Untouched.due(check, "find(4, 1)", Trees::small, x -> x.find(4, 1), 3);
        Untouched.due(check, "find(4, 31)", Trees::small, x -> x.find(4, 31), -1);
        Untouched.due(check, "find(5, 0)", Trees::small, x -> x.find(5, 0), -14);
    }
}
