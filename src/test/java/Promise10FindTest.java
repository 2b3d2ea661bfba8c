/** Promise 10: find. */
public final class Promise10FindTest {
    public static void main(String[] args) {
        Check check = new Check();
        rows(check);
        faces(check);
        methodZero(check);
        wrong(check);
        check.end();
    }

    private static void rows(Check check) {
        ChooseTree x = new ChooseTree();
        int f = Trees.face(x);
        int mf = Trees.method(x, f, 0, Trees.PUBLIC, Trees.PLAIN);
        int g = Trees.face(x, f);
        int top = Trees.type(x, 0, 0);
        int a = Trees.method(x, top, 0, Trees.PRIVATE, Trees.STATIC);
        int low = Trees.type(x, top, 1, f);
        int lowest = Trees.type(x, low, 1);
        int b = Trees.method(x, lowest, 0, Trees.PUBLIC, Trees.ABSTRACT);
        check.due("its own", x.find(top, 0), a);
        check.due("the parent's before a face's", x.find(low, 0), a);
        check.due("its own before the parent's", x.find(lowest, 0), b);
        check.due("a face's own", x.find(f, 0), mf);
        check.due("a face's face's", x.find(g, 0), mf);
    }

    private static void faces(Check check) {
        ChooseTree x = new ChooseTree();
        int f = Trees.face(x);
        int mf = Trees.method(x, f, 0, Trees.PUBLIC, Trees.ABSTRACT);
        int g = Trees.face(x);
        int mg = Trees.method(x, g, 0, Trees.PUBLIC, Trees.PLAIN);
        int h = Trees.face(x);
        Trees.method(x, h, 0, Trees.PUBLIC, Trees.PLAIN);
        int k = Trees.face(x, g);
        Trees.method(x, k, 0, Trees.PUBLIC, Trees.ABSTRACT);
        int one = Trees.type(x, 0, 0, f, g);
        check.due("the one that is not abstract", x.find(one, 0), mg);
        int two = Trees.type(x, 0, 0, f, g, h);
        check.due("two that are not abstract", x.find(two, 0), mf);
        int all = Trees.type(x, 0, 0, f, k);
        check.due("all nearest abstract", x.find(all, 0), mf);
        int hidden = Trees.type(x, 0, 0, g, k);
        check.due("the first of the FACES, nearest or not", x.find(hidden, 0), mg);
        int both = Trees.face(x, f, g);
        check.due("of a face: the one not abstract", x.find(both, 0), mg);
        int below = Trees.type(x, one, 0);
        check.due("of the parent's faces", x.find(below, 0), mg);
    }

    private static void methodZero(Check check) {
        ChooseTree x = new ChooseTree();
        int f = Trees.face(x);
        int zero = Trees.method(x, f, 0, Trees.PUBLIC, Trees.PLAIN);
        int g = Trees.face(x);
        Trees.method(x, g, 0, Trees.PUBLIC, Trees.ABSTRACT);
        int c = Trees.type(x, 0, 0, g, f);
        check.due("method 0 as the one that is not abstract", x.find(c, 0), zero);
        check.due("method 0 reached by a special call", x.special(c, c, 0), zero);
        check.due("method 0 chosen", x.choose(c, 1), zero);
    }

    private static void wrong(Check check) {
        ChooseTree x = new ChooseTree();
        int f = Trees.face(x);
        Trees.method(x, f, 0, Trees.PUBLIC, Trees.PLAIN);
        int c = Trees.type(x, 0, 0, f);
        check.due("no such method", x.find(c, 1), -1);
        check.due("class 0", x.find(0, 0), -1);
        check.due("name 32", x.find(c, 32), -1);
        check.due("not yet there", x.find(c + 1, 0), -14);
        for (int odd : Trees.ODD) {
            check.due("find(" + odd + ", 0)", x.find(odd, 0), -14);
            check.due("find(c, " + odd + ")", x.find(c, odd), -1);
        }
    }
}
