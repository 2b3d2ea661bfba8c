/** Promise 12: special. */
public final class Promise12SpecialTest {
    public static void main(String[] args) {
        Check check = new Check();
        whereItStarts(check);
        statics(check);
        faces(check);
        wrong(check);
        check.end();
    }

    private static void whereItStarts(Check check) {
        ChooseTree x = new ChooseTree();
        int top = Trees.type(x, 0, 0);
        int a = Trees.method(x, top, 0, Trees.PUBLIC, Trees.PLAIN);
        int hidden = Trees.method(x, top, 1, Trees.PRIVATE, Trees.PLAIN);
        int between = Trees.type(x, top, 0);
        int b = Trees.method(x, between, 0, Trees.PUBLIC, Trees.PLAIN);
        Trees.method(x, between, 1, Trees.PUBLIC, Trees.PLAIN);
        Trees.method(x, between, 2, Trees.PUBLIC, Trees.ABSTRACT);
        int low = Trees.type(x, between, 0);
        int c = Trees.method(x, low, 0, Trees.PUBLIC, Trees.PLAIN);
        int beside = Trees.type(x, top, 0);
        check.due("from the parent on", x.special(low, top, 0), b);
        check.due("from the parent on, that is c", x.special(low, between, 0), b);
        check.due("d is c", x.special(low, low, 0), c);
        check.due("d above c", x.special(top, low, 0), c);
        check.due("d beside c", x.special(beside, between, 0), b);
        check.due("class 0", x.special(0, top, 0), a);
        check.due("a private one", x.special(low, top, 1), hidden);
        check.due("an abstract one", x.special(low, between, 2), -25);
        check.due("an abstract one, d is c", x.special(between, between, 2), -25);
    }

    private static void statics(Check check) {
        ChooseTree x = new ChooseTree();
        int top = Trees.type(x, 0, 0);
        int a = Trees.method(x, top, 0, Trees.PUBLIC, Trees.PLAIN);
        Trees.method(x, top, 1, Trees.PRIVATE, Trees.STATIC);
        int between = Trees.type(x, top, 0);
        Trees.method(x, between, 0, Trees.PUBLIC, Trees.STATIC);
        int low = Trees.type(x, between, 0);
        check.due("a static one is passed", x.special(low, top, 0), a);
        check.due("a static one is found", x.special(low, between, 0), -21);
        check.due("a static private one is found", x.special(top, top, 1), -21);
    }

    private static void faces(Check check) {
        ChooseTree x = new ChooseTree();
        int f = Trees.face(x);
        int mf = Trees.method(x, f, 0, Trees.PUBLIC, Trees.PLAIN);
        int g = Trees.face(x, f);
        int mg = Trees.method(x, g, 0, Trees.PUBLIC, Trees.PLAIN);
        int h = Trees.face(x);
        int mh = Trees.method(x, h, 0, Trees.PUBLIC, Trees.PLAIN);
        int k = Trees.face(x, g);
        Trees.method(x, k, 0, Trees.PUBLIC, Trees.ABSTRACT);
        int top = Trees.type(x, 0, 0, f);
        int between = Trees.type(x, top, 0, g);
        int low = Trees.type(x, between, 0, h);
        int lowest = Trees.type(x, low, 0, k);
        int last = Trees.type(x, lowest, 0);
        check.due("the nearest of c", x.special(top, top, 0), mf);
        check.due("the nearest of d's parent", x.special(low, top, 0), mg);
        check.due("several nearest", x.special(lowest, top, 0), -25);
        check.due("several nearest of c", x.special(low, low, 0), -25);
        int only = Trees.type(x, between, 0, k);
        int below = Trees.type(x, only, 0);
        check.due("an abstract nearest", x.special(below, top, 0), -25);
        check.due("an abstract nearest beside one that is not", x.special(last, top, 0), mh);
    }

    private static void wrong(Check check) {
        ChooseTree x = new ChooseTree();
        int f = Trees.face(x);
        Trees.method(x, f, 0, Trees.PUBLIC, Trees.PLAIN);
        int c = Trees.type(x, 0, 0, f);
        check.due("d a face", x.special(f, c, 0), -14);
        check.due("c a face", x.special(c, f, 0), -14);
        check.due("no method", x.special(c, c, 1), -12);
        check.due("no name", x.special(c, c, 32), -12);
        check.due("class 0", x.special(c, 0, 0), -12);
        check.due("no class, no name", x.special(c + 1, c, 99), -14);
        check.due("not yet there", x.special(c, c + 1, 0), -14);
        for (int odd : Trees.ODD) {
            check.due("special(" + odd + ", c, 0)", x.special(odd, c, 0), -14);
            check.due("special(c, " + odd + ", 0)", x.special(c, odd, 0), -14);
            check.due("special(c, c, " + odd + ")", x.special(c, c, odd), -12);
        }
    }
}
