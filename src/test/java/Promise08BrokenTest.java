/** Promise 8: broken. */
public final class Promise08BrokenTest {
    public static void main(String[] args) {
        Check check = new Check();
        firstInOrder(check);
        notOverridden(check);
        throughAChain(check);
        check.end();
    }

    private static void firstInOrder(Check check) {
        ChooseTree x = new ChooseTree();
        int top = Trees.type(x, 0, 0);
        Trees.method(x, top, 1, Trees.PUBLIC, Trees.FINAL);
        Trees.method(x, top, 2, Trees.PROTECTED, Trees.FINAL);
        int between = Trees.type(x, top, 0);
        Trees.method(x, between, 3, Trees.PUBLIC, Trees.PLAIN);
        int low = Trees.type(x, between, 5);
        Trees.method(x, low, 3, Trees.PUBLIC, Trees.FINAL);
        int second = Trees.method(x, low, 2, Trees.PUBLIC, Trees.PLAIN);
        Trees.method(x, low, 1, Trees.PUBLIC, Trees.PLAIN);
        check.due("top", x.broken(top), -1);
        check.due("between", x.broken(between), -1);
        check.due("low", x.broken(low), second);
        int lowest = Trees.type(x, low, 0);
        check.due("without methods of its own", x.broken(lowest), -1);
        int f = Trees.face(x);
        Trees.method(x, f, 1, Trees.PUBLIC, Trees.PLAIN);
        check.due("a face", x.broken(f), -1);
        check.due("class 0", x.broken(0), -1);
        for (int odd : Trees.ODD) {
            check.due("broken(" + odd + ")", x.broken(odd), -1);
        }
        check.due("not yet there", x.broken(f + 1), -1);
    }

    private static void notOverridden(Check check) {
        ChooseTree x = new ChooseTree();
        int top = Trees.type(x, 0, 0);
        Trees.method(x, top, 1, Trees.PRIVATE, Trees.FINAL);
        Trees.method(x, top, 2, Trees.PUBLIC, Trees.STATIC + Trees.FINAL);
        Trees.method(x, top, 3, Trees.OPEN, Trees.FINAL);
        Trees.method(x, top, 4, Trees.PUBLIC, Trees.FINAL);
        int low = Trees.type(x, top, 1);
        for (int name = 1; name <= 3; name++) {
            Trees.method(x, low, name, Trees.PUBLIC, Trees.PLAIN);
        }
        Trees.method(x, low, 4, Trees.PUBLIC, Trees.STATIC);
        check.due("private, static, open elsewhere, by a static one", x.broken(low), -1);
        int beside = Trees.type(x, 0, 0);
        Trees.method(x, beside, 4, Trees.PUBLIC, Trees.PLAIN);
        check.due("a final one of no parent", x.broken(beside), -1);
        int near = Trees.type(x, top, 0);
        int open = Trees.method(x, near, 3, Trees.OPEN, Trees.PLAIN);
        check.due("open in one package", x.broken(near), open);
    }

    private static void throughAChain(Check check) {
        ChooseTree x = new ChooseTree();
        int top = Trees.type(x, 0, 0);
        Trees.method(x, top, 0, Trees.OPEN, Trees.FINAL);
        int between = Trees.type(x, top, 0);
        int b = Trees.method(x, between, 0, Trees.PROTECTED, Trees.PLAIN);
        int low = Trees.type(x, between, 1);
        int a = Trees.method(x, low, 0, Trees.PUBLIC, Trees.PLAIN);
        check.due("between", x.broken(between), b);
        check.due("through a chain", x.broken(low), a);
        int lower = Trees.type(x, low, 1);
        int good = Trees.method(x, lower, 1, Trees.PUBLIC, Trees.PLAIN);
        int next = Trees.type(x, low, 0);
        int bad = Trees.method(x, next, 0, Trees.PUBLIC, Trees.PLAIN);
        check.due("only its own, up to " + good, x.broken(lower), -1);
        check.due("the next one's", x.broken(next), bad);
    }
}
