/** Promise 4: a test for each sentence that names a boundary. */
public final class Boundary04MethodTest {
    public static void main(String[] args) {
        Check check = new Check();
        itsNumber(check);
        notTheLatest(check);
        classZero(check);
        noSuchName(check);
        noSuchSight(check);
        noSuchKind(check);
        doNotGoTogether(check);
        hasThatName(check);
        thereAre400(check);
        thereAre400AndANewClass(check);
        ofFaces(check);
        whichRefusal(check);
        refusedChangesNothing(check);
        check.end();
    }

    /** "its number": from 0 through all classes, refused ones not counted. */
    private static void itsNumber(Check check) {
        ChooseTree x = new ChooseTree();
        int c = Trees.type(x, 0, 0);
        check.due("the first", x.method(c, 31, 3, 3), 0);
        check.due("a refused one", x.method(c, 31, 1, 0), -1);
        check.due("the second", x.method(c, 0, 0, 4), 1);
        int f = Trees.face(x);
        check.due("of the next class", x.method(f, 31, 1, 0), 2);
    }

    /** "-14 c is not the latest" */
    private static void notTheLatest(Check check) {
        ChooseTree x = new ChooseTree();
        int c = Trees.type(x, 0, 0);
        check.due("the one after the latest", x.method(c + 1, 0, 1, 0), -14);
        int d = Trees.type(x, c, 0);
        check.due("the one before", x.method(c, 0, 1, 0), -14);
        for (int odd : Trees.strange(d)) {
            check.due("class " + odd, x.method(odd, 0, 1, 0), -14);
        }
        check.due("the latest", x.method(d, 0, 1, 0), 0);
        Trees.face(x);
        check.due("no longer the latest", x.method(d, 1, 1, 0), -14);
    }

    /** "or 0": even while it is the latest. */
    private static void classZero(Check check) {
        ChooseTree x = new ChooseTree();
        check.due("class 0 alone", x.method(0, 0, 1, 0), -14);
        check.due("class 0 alone, no name", x.method(0, 32, 1, 0), -14);
        Trees.type(x, 0, 0);
        check.due("class 0 and another", x.method(0, 0, 1, 0), -14);
        check.due("no method is there", x.kin(0), -1);
    }

    /** "-1 no such name": 0 .. 31 there are. */
    private static void noSuchName(Check check) {
        ChooseTree x = new ChooseTree();
        int c = Trees.type(x, 0, 0);
        check.due("name -1", x.method(c, -1, 1, 0), -1);
        check.due("name 32", x.method(c, 32, 1, 0), -1);
        for (int odd : Trees.strange(7)) {
            check.due("name " + odd, x.method(c, odd, 1, 0), -1);
        }
        for (int name = 0; name < 32; name++) {
            check.due("name " + name, x.method(c, name, 1, 0), name);
        }
        check.due("all names are had: name 32", x.method(c, 32, 1, 0), -1);
    }

    /** "-1 no such .. sight": 0 .. 3 there are. */
    private static void noSuchSight(Check check) {
        ChooseTree x = new ChooseTree();
        int c = Trees.type(x, 0, 0);
        check.due("sight -1", x.method(c, 0, -1, 0), -1);
        check.due("sight 4", x.method(c, 0, 4, 0), -1);
        check.due("sight 5", x.method(c, 0, 5, 0), -1);
        for (int odd : Trees.strange(1)) {
            check.due("sight " + odd, x.method(c, 0, odd, 0), -1);
        }
        for (int sight = 0; sight <= 3; sight++) {
            check.due("sight " + sight, x.method(c, sight, sight, 0), sight);
        }
    }

    /** "-1 no such .. kind": sums of 1, 2 and 4 there are. */
    private static void noSuchKind(Check check) {
        ChooseTree x = new ChooseTree();
        int c = Trees.type(x, 0, 0);
        check.due("kind -1", x.method(c, 0, 1, -1), -1);
        check.due("kind -8", x.method(c, 0, 1, -8), -1);
        for (int kind = 8; kind <= 16; kind++) {
            check.due("kind " + kind, x.method(c, 0, 1, kind), -1);
        }
        for (int k = 0; k <= 4; k++) {
            for (int odd : Trees.strange(k)) {
                check.due("kind " + odd, x.method(c, 0, 1, odd), -1);
            }
        }
        for (int kind = 0; kind <= 4; kind++) {
            check.due("kind " + kind, x.method(c, kind, 1, kind), kind);
        }
    }

    /** "-1 .. or these do not go together": an abstract one is neither static, private nor final. */
    private static void doNotGoTogether(Check check) {
        ChooseTree x = new ChooseTree();
        int c = Trees.type(x, 0, 0);
        check.due("abstract and private", x.method(c, 0, 3, 4), -1);
        for (int sight = 0; sight <= 3; sight++) {
            check.due("abstract and static", x.method(c, 0, sight, 5), -1);
            check.due("abstract and final", x.method(c, 0, sight, 6), -1);
            check.due("abstract, static and final", x.method(c, 0, sight, 7), -1);
        }
        int number = 0;
        for (int sight = 0; sight <= 3; sight++) {
            for (int kind = 0; kind <= 3; kind++) {
                String what = "sight " + sight + ", kind " + kind;
                check.due(what, x.method(c, number, sight, kind), number);
                number++;
            }
        }
        for (int sight = 0; sight <= 2; sight++) {
            check.due("abstract, sight " + sight, x.method(c, number, sight, 4), number);
            number++;
        }
    }

    /** "-1 .. or the class has that name": "once in a class". */
    private static void hasThatName(Check check) {
        ChooseTree x = new ChooseTree();
        int f = Trees.face(x);
        check.due("a face's", x.method(f, 0, 1, 4), 0);
        check.due("a face's again", x.method(f, 0, 1, 0), -1);
        int c = Trees.type(x, 0, 0, f);
        check.due("the name that its face has", x.method(c, 0, 1, 0), 1);
        check.due("again", x.method(c, 0, 1, 0), -1);
        check.due("again, of another sight and kind", x.method(c, 0, 3, 1), -1);
        check.due("name 31", x.method(c, 31, 1, 0), 2);
        check.due("name 31 again", x.method(c, 31, 1, 0), -1);
        int d = Trees.type(x, c, 0);
        check.due("the name that its parent has", x.method(d, 0, 1, 0), 3);
        check.due("again in the class below", x.method(d, 0, 1, 0), -1);
    }

    /** "-12 there are 400" */
    private static void thereAre400(Check check) {
        ChooseTree x = new ChooseTree();
        for (int m = 0; m < 400; m++) {
            if (m % 32 == 0) {
                Trees.type(x, 0, 0);
            }
            check.due("method " + m, x.method(m / 32 + 1, m % 32, 1, 0), m);
        }
        for (int name = 16; name < 32; name++) {
            check.due("one too many, name " + name, x.method(13, name, 1, 0), -12);
            check.due("it is not there", x.find(13, name), -1);
        }
        check.due("method 399", x.find(13, 15), 399);
        check.due("kin(399)", x.kin(399), 12);
        check.due("kin(400)", x.kin(400), -1);
        check.due("overrides(399, 15)", x.overrides(399, 15), true);
        check.due("overrides(400, 15)", x.overrides(400, 15), false);
        check.due("overrides(399, 400)", x.overrides(399, 400), false);
        check.due("choose(13, 399)", x.choose(13, 399), 399);
        check.due("choose(13, 400)", x.choose(13, 400), -14);
    }

    private static void thereAre400AndANewClass(Check check) {
        ChooseTree x = Trees.allMethods();
        check.due("a class more", x.add(13, 0, 0), 14);
        check.due("a method of it", x.method(14, 0, 1, 0), -12);
        check.due("it has no methods", x.broken(14), -1);
        check.due("a face more", x.add(0, 0, 1), 15);
        check.due("a method of it", x.method(15, 0, 1, 4), -12);
        check.due("a class more", x.add(14, 0, 0), 16);
        check.due("without methods it implements", x.implement(16, 15), 1);
        check.due("found in its row", x.find(16, 15), 399);
    }

    /** "(Of faces: sight 1, kind 0 or 4.)" */
    private static void ofFaces(Check check) {
        ChooseTree x = new ChooseTree();
        int f = Trees.face(x);
        for (int sight = -1; sight <= 4; sight++) {
            for (int kind = -1; kind <= 8; kind++) {
                if (sight != 1 || (kind != 0 && kind != 4)) {
                    String what = "sight " + sight + ", kind " + kind;
                    check.due(what, x.method(f, 0, sight, kind), -1);
                }
            }
        }
        check.due("kind 0", x.method(f, 0, 1, 0), 0);
        check.due("kind 4", x.method(f, 1, 1, 4), 1);
    }

    /** Where more than one holds, the first that the document names. */
    private static void whichRefusal(Check check) {
        ChooseTree x = Trees.allMethods();
        check.due("full, not the latest", x.method(12, 0, 1, 0), -14);
        check.due("full, class 0", x.method(0, 0, 1, 0), -14);
        check.due("full, no name", x.method(13, 32, 1, 0), -1);
        check.due("full, no sight", x.method(13, 31, 4, 0), -1);
        check.due("full, no kind", x.method(13, 31, 1, 8), -1);
        check.due("full, not together", x.method(13, 31, 3, 4), -1);
        check.due("full, has the name", x.method(13, 0, 1, 0), -1);
        check.due("full", x.method(13, 31, 1, 0), -12);
        check.due("not the latest, no name", x.method(12, 32, 9, 9), -14);
    }

    private static void refusedChangesNothing(Check check) {
        Untouched.due(check, "not the latest", Trees::small, x -> x.method(3, 31, 1, 0), -14);
        Untouched.due(check, "no such class", Trees::small, x -> x.method(5, 31, 1, 0), -14);
        Untouched.due(check, "class 0", Trees::small, x -> x.method(0, 31, 1, 0), -14);
        Untouched.due(check, "no name", Trees::small, x -> x.method(4, 32, 1, 0), -1);
        Untouched.due(check, "no sight", Trees::small, x -> x.method(4, 31, 4, 0), -1);
        Untouched.due(check, "no kind", Trees::small, x -> x.method(4, 31, 1, 8), -1);
        Untouched.due(check, "not together", Trees::small, x -> x.method(4, 31, 3, 4), -1);
        Untouched.due(check, "has the name", Trees::smallWithLast, x -> x.method(4, 1, 0, 2), -1);
    }
}
