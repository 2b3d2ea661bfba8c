/** Promise 7, and the term OVERRIDES: a test for each sentence that names a boundary. */
public final class Boundary07OverridesTest {
    public static void main(String[] args) {
        Check check = new Check();
        noSuchMethod(check);
        otherMethods(check);
        oneName(check);
        noneStatic(check);
        nonePrivate(check);
        publicOrProtected(check);
        onePackage(check);
        between(check);
        notBetween(check);
        betweenOfOnePackage(check);
        betweenThatAOverrides(check);
        farBetween(check);
        finalAndAbstract(check);
        asksOnly(check);
        check.end();
    }

    private static void noSuchMethod(Check check) {
        ChooseTree none = new ChooseTree();
        check.due("no methods at all", none.overrides(0, 0), false);
        ChooseTree x = Trees.pair(Trees.PUBLIC, Trees.PLAIN, 0, Trees.PUBLIC, Trees.PLAIN);
        check.due("two that are there", x.overrides(1, 0), true);
        check.due("the next one", x.overrides(2, 0), false);
        check.due("over the next one", x.overrides(1, 2), false);
        for (int odd : Trees.strange(1)) {
            check.due("overrides(" + odd + ", 0)", x.overrides(odd, 0), false);
        }
        for (int odd : Trees.strange(0)) {
            check.due("overrides(1, " + odd + ")", x.overrides(1, odd), false);
            check.due("overrides(" + odd + ", itself)", x.overrides(odd, odd), false);
        }
    }

    /** "other methods .. and unlike classes" */
    private static void otherMethods(Check check) {
        ChooseTree x = new ChooseTree();
        Trees.smallWithLast(x);
        for (int m = 0; m <= 6; m++) {
            check.due(m + " over itself", x.overrides(m, m), false);
        }
        check.due("of one class", x.overrides(2, 3), false);
    }

    /** "of one name" */
    private static void oneName(Check check) {
        ChooseTree x = new ChooseTree();
        int top = Trees.type(x, 0, 0);
        for (int name = 0; name < 32; name += 31) {
            Trees.method(x, top, name, Trees.PUBLIC, Trees.PLAIN);
        }
        int low = Trees.type(x, top, 0);
        int a = Trees.method(x, low, 31, Trees.PUBLIC, Trees.PLAIN);
        check.due("name 31 over name 0", x.overrides(a, 0), false);
        check.due("name 31 over name 31", x.overrides(a, 1), true);
    }

    /** "none static" */
    private static void noneStatic(Check check) {
        for (int kind = 0; kind <= 4; kind++) {
            boolean isStatic = kind == 1 || kind == 3;
            check.due("kind " + kind + " above", over(1, kind, 0, 1, 0), !isStatic);
            check.due("kind " + kind + " below", over(1, 0, 0, 1, kind), !isStatic);
            check.due("both kind " + kind, over(1, kind, 0, 1, kind), !isStatic);
        }
    }

    /** "none private", in one package too. */
    private static void nonePrivate(Check check) {
        for (int pack = 0; pack <= 1; pack++) {
            check.due("private above", over(3, 0, pack, 1, 0), false);
            check.due("private below", over(1, 0, pack, 3, 0), false);
            check.due("both private", over(3, 0, pack, 3, 0), false);
            check.due("none private", over(1, 0, pack, 1, 0), true);
        }
    }

    /** "if b is public or protected": wherever, and whatever a's own sight. */
    private static void publicOrProtected(Check check) {
        for (int sight = 0; sight <= 2; sight++) {
            check.due("public b, a of sight " + sight, over(1, 0, 9, sight, 0), true);
            check.due("protected b, a of sight " + sight, over(2, 0, 9, sight, 0), true);
            check.due("open b elsewhere, a of sight " + sight, over(0, 0, 9, sight, 0), false);
        }
    }

    /** "or their classes are of one package" */
    private static void onePackage(Check check) {
        for (int sight = 0; sight <= 2; sight++) {
            check.due("open b, a of sight " + sight, over(0, 0, 0, sight, 0), true);
        }
        ChooseTree x = new ChooseTree();
        int top = Trees.type(x, 0, 4);
        int b = Trees.method(x, top, 0, Trees.OPEN, Trees.PLAIN);
        int away = Trees.type(x, top, 5);
        Trees.method(x, away, 0, Trees.OPEN, Trees.PLAIN);
        int back = Trees.type(x, away, 4);
        int a = Trees.method(x, back, 0, Trees.OPEN, Trees.PLAIN);
        check.due("over another package's between", x.overrides(a, b), true);
        check.due("not that one", x.overrides(a, b + 1), false);
    }

    /** "or there is a method between (of a's class's parents, before b's class)" */
    private static void between(Check check) {
        check.due("a's parent, below b's class", chain(0, 1, 0, 1), true);
        check.due("protected", chain(0, 2, 0, 1), true);
        check.due("of another name", chain(1, 1, 0, 1), false);
        check.due("none", chain(-1, 1, 0, 1), false);
        ChooseTree x = new ChooseTree();
        int top = Trees.type(x, 0, 0);
        int b = Trees.method(x, top, 0, Trees.OPEN, Trees.PLAIN);
        int between = Trees.type(x, top, 0);
        Trees.method(x, between, 0, Trees.PUBLIC, Trees.PLAIN);
        Trees.type(x, 0, 0);
        Trees.face(x);
        int a = Trees.method(x, Trees.type(x, between, 1), 0, Trees.OPEN, Trees.PLAIN);
        check.due("with other classes' numbers in the gap", x.overrides(a, b), true);
    }

    /** Not between: what is b itself, above b's class, beside, in a's own class or in a face. */
    private static void notBetween(Check check) {
        ChooseTree x = new ChooseTree();
        int f = Trees.face(x);
        Trees.method(x, f, 0, Trees.PUBLIC, Trees.PLAIN);
        int upper = Trees.type(x, 0, 0);
        Trees.method(x, upper, 0, Trees.PUBLIC, Trees.PLAIN);
        int top = Trees.type(x, upper, 0, f);
        int b = Trees.method(x, top, 0, Trees.OPEN, Trees.PLAIN);
        int beside = Trees.type(x, top, 0);
        Trees.method(x, beside, 0, Trees.PUBLIC, Trees.PLAIN);
        int empty = Trees.type(x, top, 0, f);
        int low = Trees.type(x, empty, 1, f);
        int a = Trees.method(x, low, 0, Trees.PUBLIC, Trees.PLAIN);
        Trees.method(x, low, 1, Trees.PUBLIC, Trees.PLAIN);
        check.due("above, beside, of a face", x.overrides(a, b), false);
    }

    /** "and whose class and b's are of one package" */
    private static void betweenOfOnePackage(Check check) {
        check.due("b's package", chain(0, 1, 0, 1), true);
        check.due("a's package", chain(0, 1, 1, 1), false);
        check.due("a third package", chain(0, 1, 2, 1), false);
        check.due("all in one package", chain(0, 0, 0, 0), true);
    }

    /** "that a overrides" */
    private static void betweenThatAOverrides(Check check) {
        check.due("an open one in another package than a's", chain(0, 0, 0, 1), false);
        check.due("a private one", chain(0, 3, 0, 1), false);
        ChooseTree x = new ChooseTree();
        int top = Trees.type(x, 0, 0);
        int b = Trees.method(x, top, 0, Trees.OPEN, Trees.PLAIN);
        int between = Trees.type(x, top, 0);
        Trees.method(x, between, 0, Trees.PUBLIC, Trees.STATIC);
        int low = Trees.type(x, between, 1);
        int a = Trees.method(x, low, 0, Trees.PUBLIC, Trees.PLAIN);
        check.due("a static one", x.overrides(a, b), false);
    }

    /** The longest chain: b in class 1, the public one at either end of what is between, a in 59. */
    private static void farBetween(Check check) {
        for (int place = 2; place <= 58; place += 28) {
            ChooseTree x = new ChooseTree();
            for (int c = 1; c <= 58; c++) {
                Trees.type(x, c - 1, 0);
                int sight = c == place ? Trees.PUBLIC : Trees.OPEN;
                Trees.method(x, c, 0, sight, Trees.PLAIN);
            }
            int a = Trees.method(x, Trees.type(x, 58, 1), 0, Trees.OPEN, Trees.PLAIN);
            check.due("the public one in class " + place, x.overrides(a, 0), true);
            check.due("just above the public one", x.overrides(a, place - 2), true);
            check.due("the public one itself", x.overrides(a, place - 1), true);
            if (place < 58) {
                check.due("just below the public one", x.overrides(a, place), false);
            }
        }
    }

    /** Neither final nor abstract is named: they do not matter. */
    private static void finalAndAbstract(Check check) {
        check.due("over a final one", over(1, 2, 0, 1, 0), true);
        check.due("over an abstract one", over(1, 4, 0, 1, 0), true);
        check.due("an abstract one over a final one", over(1, 2, 0, 1, 4), true);
    }

    private static void asksOnly(Check check) {
        Untouched.due(check, "overrides(6, 3)", Trees::smallWithLast,
            x -> x.overrides(6, 3) ? 1 : 0, 1);
        Untouched.due(check, "overrides(7, 3)", Trees::smallWithLast,
            x -> x.overrides(7, 3) ? 1 : 0, 0);
    }

    private static boolean over(int sightB, int kindB, int packA, int sightA, int kindA) {
        return Trees.pair(sightB, kindB, packA, sightA, kindA).overrides(1, 0);
    }

    /** Open b of name 0 in package 0, a method between (none if its name is -1), open a of name 0. */
    private static boolean chain(int name, int sight, int pack, int packA) {
        ChooseTree x = new ChooseTree();
        int top = Trees.type(x, 0, 0);
        int b = Trees.method(x, top, 0, Trees.OPEN, Trees.PLAIN);
        int between = Trees.type(x, top, pack);
        if (name >= 0) {
            Trees.method(x, between, name, sight, Trees.PLAIN);
        }
        int a = Trees.method(x, Trees.type(x, between, packA), 0, Trees.OPEN, Trees.PLAIN);
        return x.overrides(a, b);
    }
}
