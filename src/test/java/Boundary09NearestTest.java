/** Promise 9: a test for each sentence that names a boundary. */
public final class Boundary09NearestTest {
    public static void main(String[] args) {
        Check check = new Check();
        firstAndLast(check);
        noneAtAll(check);
        noSuchClass(check);
        noSuchName(check);
        noSuchIndex(check);
        manyNearest(check);
        lowestOfALongChain(check);
        asksOnly(check);
        check.end();
    }

    /** "The i-th nearest of c for a name", from 0; "-1 if there is none". */
    private static void firstAndLast(Check check) {
        ChooseTree x = new ChooseTree();
        int mf = Trees.method(x, Trees.face(x), 31, Trees.PUBLIC, Trees.PLAIN);
        Trees.method(x, Trees.face(x), 30, Trees.PUBLIC, Trees.PLAIN);
        int mh = Trees.method(x, Trees.face(x), 31, Trees.PUBLIC, Trees.ABSTRACT);
        int c = Trees.type(x, 0, 0, 3, 2, 1);
        check.due("before the first", x.nearest(c, 31, -1), -1);
        check.due("the first", x.nearest(c, 31, 0), mh);
        check.due("the last, behind a face without the name", x.nearest(c, 31, 1), mf);
        check.due("behind the last", x.nearest(c, 31, 2), -1);
    }

    private static void noneAtAll(Check check) {
        ChooseTree x = new ChooseTree();
        check.due("class 0", x.nearest(0, 0, 0), -1);
        Trees.smallWithLast(x);
        check.due("a face of no FACES", x.nearest(1, 0, 0), -1);
        check.due("a name that only the row has", x.nearest(4, 1, 0), -1);
        check.due("a name that none has", x.nearest(4, 31, 0), -1);
        int c = Trees.type(x, 3, 0);
        check.due("the parent's faces", x.nearest(c, 0, 0), 1);
        check.due("no FACES", x.nearest(Trees.type(x, 0, 0), 0, 0), -1);
    }

    private static void noSuchClass(Check check) {
        ChooseTree x = new ChooseTree();
        Trees.small(x);
        check.due("the next one", x.nearest(5, 0, 0), -1);
        for (int odd : Trees.strange(4)) {
            check.due("nearest(" + odd + ", 0, 0)", x.nearest(odd, 0, 0), -1);
        }
    }

    private static void noSuchName(Check check) {
        ChooseTree x = new ChooseTree();
        Trees.small(x);
        check.due("name -1", x.nearest(4, -1, 0), -1);
        check.due("name 32", x.nearest(4, 32, 0), -1);
        for (int odd : Trees.strange(0)) {
            check.due("nearest(4, " + odd + ", 0)", x.nearest(4, odd, 0), -1);
        }
    }

    private static void noSuchIndex(Check check) {
        ChooseTree x = new ChooseTree();
        Trees.small(x);
        check.due("the only one", x.nearest(4, 0, 0), 1);
        for (int odd : Trees.strange(0)) {
            check.due("nearest(4, 0, " + odd + ")", x.nearest(4, 0, odd), -1);
        }
    }

    /** As many as one class can implement, none below another. */
    private static void manyNearest(Check check) {
        ChooseTree x = new ChooseTree();
        for (int f = 1; f <= 20; f++) {
            Trees.method(x, Trees.face(x), 0, Trees.PUBLIC, Trees.PLAIN);
        }
        int c = Trees.type(x, 0, 0);
        for (int f = 20; f >= 1; f--) {
            x.implement(c, f);
        }
        for (int i = 0; i < 20; i++) {
            check.due("nearest(c, 0, " + i + ")", x.nearest(c, 0, i), 19 - i);
        }
        check.due("nearest(c, 0, 20)", x.nearest(c, 0, 20), -1);
    }

    /** 58 faces, each below the one before, all with the name: one nearest. */
    private static void lowestOfALongChain(Check check) {
        ChooseTree x = new ChooseTree();
        for (int f = 1; f <= 58; f++) {
            int made = f == 1 ? Trees.face(x) : Trees.face(x, f - 1);
            Trees.method(x, made, 0, Trees.PUBLIC, Trees.PLAIN);
        }
        int c = Trees.type(x, 0, 0, 1, 58);
        check.due("the first face is not the nearest", x.face(c, 0), 1);
        check.due("the lowest", x.nearest(c, 0, 0), 57);
        check.due("no other", x.nearest(c, 0, 1), -1);
        check.due("it is found", x.find(c, 0), 57);
    }

    private static void asksOnly(Check check) {
        Untouched.due(check, "nearest(4, 0, 0)", Trees::small, x -> x.nearest(4, 0, 0), 1);
        Untouched.due(check, "nearest(4, 32, 0)", Trees::small, x -> x.nearest(4, 32, 0), -1);
    }
}
