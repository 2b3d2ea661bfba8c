/** Promise 11: choose. */
public final class Promise11ChooseTest {
    public static void main(String[] args) {
        Check check = new Check();
        rows(check);
        packages(check);
        faces(check);
        wrong(check);
        check.end();
    }

    private static void rows(Check check) {
        ChooseTree x = new ChooseTree();
        int top = Trees.type(x, 0, 0);
        int open = Trees.method(x, top, 0, Trees.PUBLIC, Trees.PLAIN);
        int hidden = Trees.method(x, top, 1, Trees.PRIVATE, Trees.PLAIN);
        int low = Trees.type(x, top, 1);
        int over = Trees.method(x, low, 0, Trees.PUBLIC, Trees.PLAIN);
        Trees.method(x, low, 1, Trees.PUBLIC, Trees.PLAIN);
        int lowest = Trees.type(x, low, 2);
        Trees.method(x, lowest, 0, Trees.PUBLIC, Trees.STATIC);
        int last = Trees.type(x, lowest, 2);
        Trees.method(x, last, 0, Trees.PUBLIC, Trees.ABSTRACT);
        check.due("itself", x.choose(top, open), open);
        check.due("what overrides it", x.choose(low, open), over);
        check.due("a private one", x.choose(low, hidden), hidden);
        check.due("a static one is passed", x.choose(lowest, open), over);
        check.due("an abstract one", x.choose(last, open), -25);
    }

    private static void packages(Check check) {
        ChooseTree x = new ChooseTree();
        int top = Trees.type(x, 0, 0);
        int open = Trees.method(x, top, 0, Trees.OPEN, Trees.PLAIN);
        int away = Trees.type(x, top, 1);
        int apart = Trees.method(x, away, 0, Trees.OPEN, Trees.PLAIN);
        int back = Trees.type(x, away, 0);
        int again = Trees.method(x, back, 0, Trees.PUBLIC, Trees.PLAIN);
        int far = Trees.type(x, back, 3);
        int chain = Trees.method(x, far, 0, Trees.PUBLIC, Trees.PLAIN);
        check.due("in another package", x.choose(away, open), open);
        check.due("the other one", x.choose(away, apart), apart);
        check.due("in the package again", x.choose(back, open), again);
        check.due("not over the other package's", x.choose(back, apart), apart);
        check.due("through a chain", x.choose(far, open), chain);
        check.due("no chain in the other package", x.choose(far, apart), apart);
    }

    private static void faces(Check check) {
        ChooseTree x = new ChooseTree();
        int f = Trees.face(x);
        int mf = Trees.method(x, f, 0, Trees.PUBLIC, Trees.ABSTRACT);
        int g = Trees.face(x, f);
        int mg = Trees.method(x, g, 0, Trees.PUBLIC, Trees.PLAIN);
        int h = Trees.face(x, f);
        int mh = Trees.method(x, h, 0, Trees.PUBLIC, Trees.PLAIN);
        int top = Trees.type(x, 0, 0);
        int mt = Trees.method(x, top, 0, Trees.OPEN, Trees.PLAIN);
        check.due("the parent's, that does not implement it", x.choose(Trees.type(x, top, 1, f), mf), mt);
        check.due("none but an abstract one", x.choose(Trees.type(x, 0, 0, f), mf), -25);
        int one = Trees.type(x, 0, 0, g);
        check.due("the nearest", x.choose(one, mf), mg);
        int two = Trees.type(x, one, 0, h);
        check.due("two nearest", x.choose(two, mf), -26);
        check.due("two nearest", x.choose(two, mg), -26);
        check.due("two nearest", x.choose(two, mh), -26);
        int k = Trees.face(x, g, h);
        Trees.method(x, k, 0, Trees.PUBLIC, Trees.ABSTRACT);
        check.due("an abstract one is nearer", x.choose(Trees.type(x, two, 0, k), mf), -25);
        int s = Trees.type(x, 0, 0, g);
        Trees.method(x, s, 0, Trees.PUBLIC, Trees.STATIC);
        check.due("a static one in the row", x.choose(s, mf), mg);
        int p = Trees.type(x, 0, 0, g);
        Trees.method(x, p, 0, Trees.PRIVATE, Trees.PLAIN);
        check.due("a private one in the row", x.choose(p, mf), mg);
    }

    private static void wrong(Check check) {
        ChooseTree x = new ChooseTree();
        int f = Trees.face(x);
        int mf = Trees.method(x, f, 0, Trees.PUBLIC, Trees.PLAIN);
        int g = Trees.face(x, f);
        int top = Trees.type(x, 0, 0, f);
        int m = Trees.method(x, top, 1, Trees.PUBLIC, Trees.PLAIN);
        int s = Trees.method(x, top, 2, Trees.PUBLIC, Trees.STATIC);
        int low = Trees.type(x, top, 0);
        int ml = Trees.method(x, low, 1, Trees.PUBLIC, Trees.PLAIN);
        int pl = Trees.method(x, low, 3, Trees.PRIVATE, Trees.PLAIN);
        int beside = Trees.type(x, 0, 0);
        check.due("good", x.choose(low, m), ml);
        check.due("for a face", x.choose(f, mf), -14);
        check.due("for a face below", x.choose(g, mf), -14);
        check.due("a static one", x.choose(top, s), -14);
        check.due("of a class below", x.choose(top, ml), -14);
        check.due("a private one of a class below", x.choose(top, pl), -14);
        check.due("of a class beside", x.choose(beside, m), -14);
        check.due("of a face beside", x.choose(beside, mf), -14);
        check.due("class 0", x.choose(0, m), -14);
        for (int odd : Trees.ODD) {
            check.due("choose(" + odd + ", m)", x.choose(odd, m), -14);
            check.due("choose(top, " + odd + ")", x.choose(top, odd), -14);
        }
        check.due("not yet there", x.choose(beside + 1, m), -14);
        check.due("not yet there", x.choose(low, pl + 1), -14);
    }
}
