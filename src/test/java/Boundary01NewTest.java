/** Promise 1: a test for each sentence that names a boundary. */
public final class Boundary01NewTest {
    public static void main(String[] args) {
        Check check = new Check();
        classZero(check);
        nothingElse(check);
        objectsApart(check);
        check.end();
    }

    /** "class 0 is there from the beginning: no face, package 0, without methods." */
    private static void classZero(Check check) {
        ChooseTree x = new ChooseTree();
        check.due("it is there", x.isBelow(0, 0), true);
        check.due("class 1 is not", x.isBelow(1, 1), false);
        check.due("it gets no method while it is alone", x.method(0, 0, 1, 0), -14);
        for (int name = 0; name < 32; name++) {
            check.due("name " + name + " in it", x.find(0, name), -1);
        }
        check.due("it can be a parent", x.add(0, 0, 0), 1);
        check.due("it is no face to implement", x.implement(1, 0), -14);
        Trees.face(x);
        check.due("it is no face: a face's parent", x.add(0, 0, 1), 3);
        check.due("it gets no face later", x.implement(0, 2), -14);
        check.due("it gets no method later", x.method(0, 0, 1, 0), -14);
        check.due("its FACES", x.face(0, 0), -1);
    }

    /** "Class 0": it alone, and no methods, whatever is asked. */
    private static void nothingElse(Check check) {
        ChooseTree x = new ChooseTree();
        for (int odd : Trees.strange(0)) {
            check.due("isBelow(" + odd + ", 0)", x.isBelow(odd, 0), false);
            check.due("face(" + odd + ", 0)", x.face(odd, 0), -1);
            check.due("face(0, " + odd + ")", x.face(0, odd), -1);
            check.due("overrides(" + odd + ", 0)", x.overrides(odd, 0), false);
            check.due("broken(" + odd + ")", x.broken(odd), -1);
            check.due("nearest(0, " + odd + ", 0)", x.nearest(0, odd, 0), -1);
            check.due("find(" + odd + ", 0)", x.find(odd, 0), -14);
            check.due("choose(0, " + odd + ")", x.choose(0, odd), -14);
            check.due("special(0, 0, " + odd + ")", x.special(0, 0, odd), -12);
            check.due("kin(" + odd + ")", x.kin(odd), -1);
        }
        check.due("overrides(0, 0)", x.overrides(0, 0), false);
        check.due("broken(0)", x.broken(0), -1);
        check.due("kin(0)", x.kin(0), -1);
        check.due("choose(0, 0)", x.choose(0, 0), -14);
        check.due("special(0, 0, 0)", x.special(0, 0, 0), -12);
    }

    /** A new object, whatever others have been made and used. */
    private static void objectsApart(Check check) {
        ChooseTree x = new ChooseTree();
        ChooseTree y = new ChooseTree();
        Trees.smallWithLast(x);
        check.due("a new one beside a used one: its class", y.isBelow(1, 1), false);
        check.due("its first class", y.add(0, 0, 0), 1);
        check.due("it is no face", x.isBelow(3, 1) && !y.isBelow(3, 1), true);
        check.due("its first method", y.method(1, 0, 0, 0), 0);
        check.due("the used one's class 1 is a face still", x.add(1, 0, 0), -14);
        check.due("the used one's next method", x.method(4, 0, 1, 0), 7);
    }
}
