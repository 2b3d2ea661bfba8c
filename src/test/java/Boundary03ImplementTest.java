/** Promise 3: a test for each sentence that names a boundary. */
public final class Boundary03ImplementTest {
    public static void main(String[] args) {
        Check check = new Check();
        howManyItDoes(check);
        noSuchClasses(check);
        notTheLatest(check);
        itself(check);
        noFace(check);
        doesAlready(check);
        hasMethods(check);
        thereAre20(check);
        thereAre20OfAFace(check);
        twentyOfItsOwn(check);
        whichRefusal(check);
        refusedChangesNothing(check);
        check.end();
    }

    /** "how many it does": those of its own. */
    private static void howManyItDoes(Check check) {
        ChooseTree x = new ChooseTree();
        int f = Trees.face(x);
        int g = Trees.face(x, f);
        int top = Trees.type(x, 0, 0);
        check.due("one, that has one itself", x.implement(top, g), 1);
        int low = Trees.type(x, top, 0);
        check.due("not counting the parent's", x.implement(low, f), 1);
        check.due("two", x.implement(low, g), 2);
    }

    /** "-14 no such classes" */
    private static void noSuchClasses(Check check) {
        ChooseTree x = new ChooseTree();
        Trees.face(x);
        int c = Trees.type(x, 0, 0);
        check.due("the class after the latest", x.implement(c + 1, 1), -14);
        check.due("a face after the latest", x.implement(c, c + 1), -14);
        for (int odd : Trees.strange(c)) {
            check.due("class " + odd, x.implement(odd, 1), -14);
        }
        for (int odd : Trees.strange(1)) {
            check.due("face " + odd, x.implement(c, odd), -14);
            check.due("neither, " + odd, x.implement(odd, odd), -14);
        }
        check.due("it has none", x.face(c, 0), -1);
    }

    /** "or c is not the latest" */
    private static void notTheLatest(Check check) {
        ChooseTree x = new ChooseTree();
        int f = Trees.face(x);
        int c = Trees.type(x, 0, 0);
        int d = Trees.type(x, 0, 0);
        check.due("the one before", x.implement(c, f), -14);
        check.due("class 0", x.implement(0, f), -14);
        check.due("the latest", x.implement(d, f), 1);
        int g = Trees.face(x);
        check.due("no longer the latest", x.implement(d, g), -14);
        check.due("a face, the latest", x.implement(g, f), 1);
    }

    /** "or f is c" */
    private static void itself(Check check) {
        ChooseTree x = new ChooseTree();
        check.due("class 0", x.implement(0, 0), -14);
        int f = Trees.face(x);
        check.due("a face", x.implement(f, f), -14);
        check.due("it is not of its FACES", x.face(f, 0), -1);
        int c = Trees.type(x, 0, 0);
        check.due("a class", x.implement(c, c), -14);
    }

    /** "or none": f is no face. */
    private static void noFace(Check check) {
        ChooseTree x = new ChooseTree();
        int c = Trees.type(x, 0, 0);
        int d = Trees.type(x, c, 0);
        check.due("the parent", x.implement(d, c), -14);
        check.due("class 0", x.implement(d, 0), -14);
        int f = Trees.face(x);
        check.due("a face implements a class", x.implement(f, c), -14);
        check.due("a face implements class 0", x.implement(f, 0), -14);
    }

    /** "-1 it does already": of its own, not by what it is below. */
    private static void doesAlready(Check check) {
        ChooseTree x = new ChooseTree();
        int f = Trees.face(x);
        int g = Trees.face(x, f);
        check.due("a face, again", x.implement(g, f), -1);
        int top = Trees.type(x, 0, 0, g);
        check.due("again", x.implement(top, g), -1);
        check.due("what its face does", x.implement(top, f), 2);
        check.due("the first again, behind the second", x.implement(top, g), -1);
        int low = Trees.type(x, top, 0);
        check.due("what the parent does", x.implement(low, g), 1);
        check.due("again, of its own", x.implement(low, g), -1);
    }

    /** "-1 .. or it has methods" */
    private static void hasMethods(Check check) {
        ChooseTree x = new ChooseTree();
        int f = Trees.face(x);
        int g = Trees.face(x);
        Trees.method(x, g, 0, Trees.PUBLIC, Trees.ABSTRACT);
        check.due("a face with one", x.implement(g, f), -1);
        int c = Trees.type(x, 0, 0, f);
        check.due("a method that is refused", x.method(c, 32, 1, 0), -1);
        check.due("then it has none yet", x.implement(c, g), 2);
        Trees.method(x, c, 31, Trees.PRIVATE, Trees.STATIC);
        int h = Trees.face(x);
        int d = Trees.type(x, c, 0);
        check.due("the parent's methods do not matter", x.implement(d, h), 1);
        Trees.method(x, d, 0, Trees.PUBLIC, Trees.PLAIN);
        check.due("a class with one", x.implement(d, f), -1);
    }

    /** "-12 there are 20" */
    private static void thereAre20(Check check) {
        ChooseTree x = withFaces(22);
        int c = Trees.type(x, 0, 0);
        for (int i = 1; i <= 20; i++) {
            check.due("face " + i, x.implement(c, 22 - i), i);
        }
        check.due("one too many", x.implement(c, 22), -12);
        check.due("another one too many", x.implement(c, 1), -12);
        check.due("the twentieth", x.face(c, 19), 2);
        check.due("no more", x.face(c, 20), -1);
        check.due("not below it", x.isBelow(c, 22), false);
        check.due("methods go on", x.method(c, 0, 1, 0), 0);
    }

    private static void thereAre20OfAFace(Check check) {
        ChooseTree x = withFaces(21);
        int g = Trees.face(x);
        for (int f = 1; f <= 20; f++) {
            check.due("face " + f, x.implement(g, f), f);
        }
        check.due("one too many", x.implement(g, 21), -12);
        check.due("the next class starts anew", x.implement(Trees.type(x, 0, 0), 21), 1);
    }

    /** Twenty of its own: those that it is below by others are not among them. */
    private static void twentyOfItsOwn(Check check) {
        ChooseTree x = withFaces(20);
        int top = Trees.type(x, 0, 0);
        for (int f = 1; f <= 20; f++) {
            x.implement(top, f);
        }
        for (int f = 22; f <= 41; f++) {
            Trees.face(x, 1);
        }
        int low = Trees.type(x, top, 0);
        for (int f = 22; f <= 41; f++) {
            check.due("face " + f, x.implement(low, f), f - 21);
        }
        check.due("one too many", x.implement(low, 20), -12);
        int[] want = {22, 1, 23};
        for (int i = 0; i < want.length; i++) {
            check.due("face(low, " + i + ")", x.face(low, i), want[i]);
        }
        check.due("the last of its own", x.face(low, 20), 41);
        check.due("the parent's behind them", x.face(low, 21), 2);
        check.due("the last", x.face(low, 39), 20);
        check.due("no more", x.face(low, 40), -1);
    }

    /** Where more than one holds, the first that the document names. */
    private static void whichRefusal(Check check) {
        ChooseTree x = withFaces(21);
        int c = Trees.type(x, 0, 0);
        for (int f = 1; f <= 20; f++) {
            x.implement(c, f);
        }
        check.due("full, no such face", x.implement(c, c + 1), -14);
        check.due("full, no face", x.implement(c, 0), -14);
        check.due("full, does already", x.implement(c, 20), -1);
        Trees.method(x, c, 0, Trees.PUBLIC, Trees.PLAIN);
        check.due("full, has methods", x.implement(c, 21), -1);
        check.due("has methods, no such face", x.implement(c, -1), -14);
        check.due("has methods, itself", x.implement(c, c), -14);
    }

    private static void refusedChangesNothing(Check check) {
        Untouched.due(check, "no such class", Trees::small, x -> x.implement(5, 1), -14);
        Untouched.due(check, "no such face", Trees::small, x -> x.implement(4, 5), -14);
        Untouched.due(check, "not the latest", Trees::small, x -> x.implement(3, 1), -14);
        Untouched.due(check, "itself", Trees::small, x -> x.implement(4, 4), -14);
        Untouched.due(check, "no face", Trees::small, x -> x.implement(4, 3), -14);
        Untouched.due(check, "does already", Trees::small, x -> x.implement(4, 1), -1);
        Untouched.due(check, "has methods", Trees::smallWithLast, x -> x.implement(4, 2), -1);
    }

    private static ChooseTree withFaces(int amount) {
        ChooseTree x = new ChooseTree();
        for (int f = 1; f <= amount; f++) {
            Trees.face(x);
        }
        return x;
    }
}
