/** Promise 5: a test for each sentence that names a boundary. */
public final class Boundary05IsBelowTest {
    public static void main(String[] args) {
        Check check = new Check();
        itself(check);
        classZero(check);
        noSuchClass(check);
        onlyUpwards(check);
        lastClasses(check);
        asksOnly(check);
        check.end();
    }

    /** "Whether class c is k" */
    private static void itself(Check check) {
        ChooseTree x = new ChooseTree();
        Trees.small(x);
        for (int c = 0; c <= 4; c++) {
            check.due("class " + c + " is itself", x.isBelow(c, c), true);
        }
    }

    private static void classZero(Check check) {
        ChooseTree x = new ChooseTree();
        Trees.small(x);
        for (int c = 1; c <= 4; c++) {
            check.due("class " + c + " is below 0", x.isBelow(c, 0), true);
            check.due("0 is not below " + c, x.isBelow(0, c), false);
        }
    }

    private static void noSuchClass(Check check) {
        ChooseTree x = new ChooseTree();
        Trees.small(x);
        check.due("the next one and itself", x.isBelow(5, 5), false);
        check.due("the next one and 0", x.isBelow(5, 0), false);
        check.due("4 and the next one", x.isBelow(4, 5), false);
        for (int k = 0; k <= 3; k++) {
            for (int odd : Trees.strange(k)) {
                check.due("isBelow(4, " + odd + ")", x.isBelow(4, odd), false);
                check.due("isBelow(" + odd + ", 0)", x.isBelow(odd, 0), false);
                check.due("isBelow(" + odd + ", itself)", x.isBelow(odd, odd), false);
            }
        }
    }

    /** "or below it": what a class is below is not below the class, nor are two beside one another. */
    private static void onlyUpwards(Check check) {
        ChooseTree x = new ChooseTree();
        Trees.small(x);
        int beside = Trees.type(x, 0, 0, 1);
        check.due("4 below 3", x.isBelow(4, 3), true);
        check.due("3 below 4", x.isBelow(3, 4), false);
        check.due("4 below face 2, by its parent", x.isBelow(4, 2), true);
        check.due("face 2 below 4", x.isBelow(2, 4), false);
        check.due("3 below face 1, by face 2", x.isBelow(3, 1), true);
        check.due("face 1 below face 2", x.isBelow(1, 2), false);
        check.due("beside, by one face: " + beside, x.isBelow(beside, 3), false);
        check.due("beside, the other way", x.isBelow(3, beside), false);
        check.due("not the face below its face", x.isBelow(beside, 2), false);
    }

    /** Classes 58 and 59, the last ones that there can be. */
    private static void lastClasses(Check check) {
        ChooseTree x = Trees.longestRow();
        check.due("59 below 58", x.isBelow(59, 58), true);
        check.due("58 below 59", x.isBelow(58, 59), false);
        check.due("59 below 1", x.isBelow(59, 1), true);
        check.due("59 and 60", x.isBelow(59, 60), false);
        check.due("60 and 59", x.isBelow(60, 59), false);
        check.due("59 and 64", x.isBelow(59, 64), false);
    }

    private static void asksOnly(Check check) {
        Untouched.due(check, "isBelow(4, 1)", Trees::small, x -> x.isBelow(4, 1) ? 1 : 0, 1);
        Untouched.due(check, "isBelow(5, 5)", Trees::small, x -> x.isBelow(5, 5) ? 1 : 0, 0);
    }
}
