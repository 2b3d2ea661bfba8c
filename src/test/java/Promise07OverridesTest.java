/** Promise 7: overrides. */
public final class Promise07OverridesTest {
    public static void main(String[] args) {
        Check check = new Check();
        sights(check);
        kinds(check);
        names(check);
        chains(check);
        brokenChains(check);
        apart(check);
        wrongNumbers(check);
        check.end();
    }

    private static void sights(Check check) {
        for (int a = 0; a <= 3; a++) {
            for (int b = 0; b <= 3; b++) {
                for (int pack = 0; pack <= 1; pack++) {
                    boolean seen = b == 1 || b == 2 || (b == 0 && pack == 0);
                    check.due("sight " + a + " over " + b + ", package " + pack,
                        pair(a, 0, b, 0, pack), a != 3 && seen);
                }
            }
        }
    }

    private static void kinds(Check check) {
        for (int a = 0; a <= 4; a++) {
            for (int b = 0; b <= 4; b++) {
                boolean noneStatic = a != 1 && a != 3 && b != 1 && b != 3;
                check.due("kind " + a + " over " + b, pair(1, a, 1, b, 0), noneStatic);
            }
        }
    }

    private static boolean pair(int sightA, int kindA, int sightB, int kindB, int packOfA) {
        ChooseTree x = new ChooseTree();
        int b = Trees.method(x, Trees.type(x, 0, 0), 4, sightB, kindB);
        int a = Trees.method(x, Trees.type(x, 1, packOfA), 4, sightA, kindA);
        return x.overrides(a, b);
    }

    private static void names(Check check) {
        ChooseTree x = new ChooseTree();
        int c = Trees.type(x, 0, 0);
        int b = Trees.method(x, c, 1, Trees.PUBLIC, Trees.PLAIN);
        int other = Trees.method(x, c, 2, Trees.PUBLIC, Trees.PLAIN);
        int a = Trees.method(x, Trees.type(x, c, 0), 1, Trees.PUBLIC, Trees.PLAIN);
        check.due("itself", x.overrides(b, b), false);
        check.due("one class", x.overrides(b, other), false);
        check.due("another name", x.overrides(a, other), false);
        check.due("one name", x.overrides(a, b), true);
    }

    /** Open b in package 0, x1 in package 0, a in package 1: through x1 if a overrides x1. */
    private static void chains(Check check) {
        for (int sight = 0; sight <= 3; sight++) {
            for (int kind = 0; kind <= 4; kind++) {
                if (sight == 3 && kind == 4) {
                    continue;
                }
                boolean isStatic = kind == 1 || kind == 3;
                boolean seen = (sight == 1 || sight == 2) && !isStatic;
                check.due("through sight " + sight + ", kind " + kind,
                    through(sight, kind, 0, 3), seen);
                check.due("through another name", through(sight, kind, 0, 4), false);
                check.due("through another package", through(sight, kind, 2, 3), false);
            }
        }
    }

    private static boolean through(int sight, int kind, int pack, int name) {
        ChooseTree x = new ChooseTree();
        int top = Trees.type(x, 0, 0);
        int b = Trees.method(x, top, 3, Trees.OPEN, Trees.PLAIN);
        int between = Trees.type(x, top, pack);
        Trees.method(x, between, name, sight, kind);
        int a = Trees.method(x, Trees.type(x, between, 1), 3, Trees.OPEN, Trees.PLAIN);
        return x.overrides(a, b);
    }

    private static void brokenChains(Check check) {
        ChooseTree x = new ChooseTree();
        int upper = Trees.type(x, 0, 0);
        Trees.method(x, upper, 3, Trees.PUBLIC, Trees.PLAIN);
        int top = Trees.type(x, upper, 0);
        int b = Trees.method(x, top, 3, Trees.OPEN, Trees.PLAIN);
        int low = Trees.type(x, top, 1);
        int a = Trees.method(x, low, 3, Trees.OPEN, Trees.PLAIN);
        check.due("a public one behind b is not between", x.overrides(a, b), false);
        int side = Trees.type(x, top, 0);
        Trees.method(x, side, 3, Trees.PUBLIC, Trees.PLAIN);
        check.due("one beside is not between", x.overrides(a, b), false);
        int one = Trees.type(x, side, 0);
        Trees.method(x, one, 3, Trees.OPEN, Trees.PLAIN);
        int two = Trees.type(x, one, 2);
        int far = Trees.method(x, two, 3, Trees.OPEN, Trees.PLAIN);
        check.due("through a chain of two", x.overrides(far, b), true);
    }

    /** The document asks nothing of how the two classes lie to one another. */
    private static void apart(Check check) {
        ChooseTree x = new ChooseTree();
        int f = Trees.face(x);
        int inFace = Trees.method(x, f, 0, Trees.PUBLIC, Trees.ABSTRACT);
        int left = Trees.type(x, 0, 1);
        int a = Trees.method(x, left, 0, Trees.PUBLIC, Trees.PLAIN);
        int right = Trees.type(x, 0, 2);
        int b = Trees.method(x, right, 0, Trees.OPEN, Trees.PLAIN);
        check.due("a face's that it does not implement", x.overrides(a, inFace), true);
        check.due("a public one beside", x.overrides(b, a), true);
        check.due("an open one beside", x.overrides(a, b), false);
        check.due("a face's over a class's", x.overrides(inFace, a), true);
        check.due("a face's over an open one", x.overrides(inFace, b), false);
    }

    private static void wrongNumbers(Check check) {
        ChooseTree x = new ChooseTree();
        int c = Trees.type(x, 0, 0);
        int b = Trees.method(x, c, 0, Trees.PUBLIC, Trees.PLAIN);
        int a = Trees.method(x, Trees.type(x, c, 0), 0, Trees.PUBLIC, Trees.PLAIN);
        check.due("overrides(a, b)", x.overrides(a, b), true);
        for (int odd : Trees.ODD) {
            check.due("overrides(" + odd + ", b)", x.overrides(odd, b), false);
            check.due("overrides(a, " + odd + ")", x.overrides(a, odd), false);
        }
        check.due("not yet there", x.overrides(2, b), false);
        check.due("not yet there", x.overrides(a, 2), false);
    }
}
