/** Promise 3: implement. */
public final class Promise03ImplementTest {
    public static void main(String[] args) {
        Check check = new Check();
        answers(check);
        inherited(check);
        limit(check);
        check.end();
    }

    private static void answers(Check check) {
        ChooseTree x = new ChooseTree();
        check.due("class 0, none there", x.implement(0, 0), -14);
        check.due("class 0, no such face", x.implement(0, 1), -14);
        int f = Trees.face(x);
        check.due("itself", x.implement(f, f), -14);
        int g = Trees.face(x);
        int c = Trees.type(x, 0, 0);
        int d = Trees.type(x, c, 0);
        check.due("a class as a face", x.implement(d, c), -14);
        check.due("class 0 as a face", x.implement(d, 0), -14);
        check.due("not the latest", x.implement(c, f), -14);
        check.due("itself, no face", x.implement(d, d), -14);
        for (int odd : Trees.ODD) {
            check.due("implement(" + odd + ", f)", x.implement(odd, f), -14);
            check.due("implement(d, " + odd + ")", x.implement(d, odd), -14);
        }
        check.due("the first", x.implement(d, g), 1);
        check.due("again", x.implement(d, g), -1);
        check.due("the second", x.implement(d, f), 2);
        check.due("again", x.implement(d, f), -1);
        int e = Trees.type(x, 0, 0);
        Trees.method(x, e, 0, Trees.PUBLIC, Trees.PLAIN);
        check.due("with methods", x.implement(e, f), -1);
        check.due("with methods, not a face", x.implement(e, c), -14);
        check.due("a refusal gives no face", x.face(e, 0), -1);
        int h = Trees.face(x);
        check.due("a face", x.implement(h, f), 1);
    }

    private static void inherited(Check check) {
        ChooseTree x = new ChooseTree();
        int f = Trees.face(x);
        int g = Trees.face(x, f);
        int c = Trees.type(x, 0, 0, g);
        int d = Trees.type(x, c, 0);
        check.due("what only the parent does", x.implement(d, g), 1);
        check.due("what its face does", x.implement(d, f), 2);
    }

    private static void limit(Check check) {
        ChooseTree x = new ChooseTree();
        for (int f = 1; f <= 21; f++) {
            Trees.face(x);
        }
        int c = Trees.type(x, 0, 0);
        for (int f = 1; f <= 20; f++) {
            check.due("face " + f, x.implement(c, f), f);
        }
        check.due("one too many", x.implement(c, 21), -12);
        check.due("full, does already", x.implement(c, 20), -1);
        check.due("full, no face", x.implement(c, 0), -14);
        check.due("a refusal gives no face", x.face(c, 20), -1);
        Trees.method(x, c, 0, Trees.PUBLIC, Trees.PLAIN);
        check.due("full, with methods", x.implement(c, 21), -1);
        int d = Trees.type(x, c, 0);
        check.due("the next one starts anew", x.implement(d, 1), 1);
    }
}
