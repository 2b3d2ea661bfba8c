/** Promise 2: add. */
public final class Promise02AddTest {
    public static void main(String[] args) {
        Check check = new Check();
        answers(check);
        orderOfRefusals(check);
        limit(check);
        check.end();
    }

    private static void answers(Check check) {
        ChooseTree x = new ChooseTree();
        check.due("a class", x.add(0, 9, 0), 1);
        check.due("a face", x.add(0, 0, 1), 2);
        check.due("a class below 1", x.add(1, 3, 0), 3);
        check.due("below a face", x.add(2, 0, 0), -14);
        check.due("a face below a face", x.add(2, 0, 1), -14);
        check.due("its own number as parent", x.add(4, 0, 0), -14);
        for (int odd : Trees.ODD) {
            check.due("parent " + odd, x.add(odd, 0, 0), -14);
            check.due("pack " + odd, x.add(0, odd, 0), -1);
            check.due("kind " + odd, x.add(0, 0, odd), -1);
        }
        check.due("pack 10", x.add(0, 10, 0), -1);
        check.due("kind 2", x.add(0, 0, 2), -1);
        check.due("a face with a parent", x.add(1, 0, 1), -1);
        check.due("a refusal adds nothing", x.add(0, 0, 0), 4);
    }

    private static void orderOfRefusals(Check check) {
        ChooseTree x = new ChooseTree();
        Trees.face(x);
        check.due("no parent, no pack", x.add(7, 10, 0), -14);
        check.due("a face as parent, no kind", x.add(1, 0, 2), -14);
    }

    private static void limit(Check check) {
        ChooseTree x = new ChooseTree();
        for (int c = 1; c < 60; c++) {
            check.due("class " + c, x.add(c - 1, c % 10, 0), c);
        }
        check.due("one too many", x.add(0, 0, 0), -12);
        check.due("one too many, a face", x.add(0, 0, 1), -12);
        check.due("full, no parent", x.add(60, 0, 0), -14);
        check.due("full, no pack", x.add(0, 10, 0), -1);
        check.due("full, a face with a parent", x.add(1, 0, 1), -1);
        check.due("the last is there", x.isBelow(59, 1), true);
        check.due("no more is there", x.isBelow(60, 60), false);
    }
}
