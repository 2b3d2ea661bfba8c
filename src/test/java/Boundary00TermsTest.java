/** "What it is" and "Terms": a test for each sentence that names a boundary. */
public final class Boundary00TermsTest {
    public static void main(String[] args) {
        Check check = new Check();
        call512(check);
        packages(check);
        belowItsParent(check);
        facesWhereTheyComeFirst(check);
        longestRow(check);
        rowOfAFace(check);
        abstractInAnyClass(check);
        nearestHiddenOnlyByFacesOfIts(check);
        nearestHiddenOnlyFromBelow(check);
        check.end();
    }

    /** "An object is used for at most 512 calls after it has been made": the last is still right. */
    private static void call512(Check check) {
        ChooseTree x = Trees.allMethods();
        int calls = 413;
        for (int c = 14; c < 60; c++) {
            check.due("class " + c, x.add(c - 1, 0, 0), c);
            calls++;
        }
        for (int c = 7; calls < 511; c++) {
            check.due("find(" + c + ", 31)", x.find(c, 31), Math.min(c, 12) * 32 - 1);
            calls++;
        }
        check.due("call 512: find(59, 15)", x.find(59, 15), 399);
    }

    /** "a package 0 .. 9": ten, and none is another. */
    private static void packages(Check check) {
        for (int p = 0; p < 10; p++) {
            for (int q = 0; q < 10; q++) {
                ChooseTree x = new ChooseTree();
                int b = Trees.method(x, Trees.type(x, 0, p), 0, Trees.OPEN, Trees.PLAIN);
                int a = Trees.method(x, Trees.type(x, 1, q), 0, Trees.OPEN, Trees.PLAIN);
                check.due("package " + q + " below " + p, x.overrides(a, b), p == q);
            }
        }
    }

    /** "It is BELOW its parent, what it implements, and what these are below." */
    private static void belowItsParent(Check check) {
        ChooseTree x = Trees.longestRow();
        for (int c = 0; c < 60; c++) {
            check.due("59 below " + c, x.isBelow(59, c), true);
            check.due(c + " below 59", x.isBelow(c, 59), c == 59);
        }
        ChooseTree y = Trees.longestFaces();
        for (int f = 0; f < 60; f++) {
            check.due("face 59 below " + f, y.isBelow(59, f), true);
            check.due("face " + f + " below 59", y.isBelow(f, 59), f == 59);
        }
    }

    /** "each only where it comes first: for each that it implements, that one and then its FACES;
     * then its parent's." */
    private static void facesWhereTheyComeFirst(Check check) {
        ChooseTree x = new ChooseTree();
        int f = Trees.face(x);
        int g = Trees.face(x, f);
        int h = Trees.face(x, f);
        int top = Trees.type(x, 0, 0, f, h);
        int low = Trees.type(x, top, 0, g, h);
        int[] want = {g, f, h, -1};
        for (int i = 0; i < want.length; i++) {
            check.due("face(low, " + i + ")", x.face(low, i), want[i]);
        }
        int lowest = Trees.type(x, low, 0, f);
        int[] wantOfLowest = {f, g, h, -1};
        for (int i = 0; i < wantOfLowest.length; i++) {
            check.due("face(lowest, " + i + ")", x.face(lowest, i), wantOfLowest[i]);
        }
    }

    /** "Its ROW is it and its parents, the nearest first": 60 classes at most. */
    private static void longestRow(Check check) {
        ChooseTree x = new ChooseTree();
        int top = Trees.method(x, Trees.type(x, 0, 0), 0, Trees.PUBLIC, Trees.FINAL);
        int second = Trees.method(x, Trees.type(x, 1, 0), 1, Trees.PUBLIC, Trees.PLAIN);
        for (int c = 3; c < 58; c++) {
            Trees.type(x, c - 1, 1);
        }
        int third = Trees.method(x, Trees.type(x, 57, 1), 1, Trees.PUBLIC, Trees.PLAIN);
        int last = Trees.method(x, Trees.type(x, 58, 1), 0, Trees.PUBLIC, Trees.PLAIN);
        check.due("the last class", x.isBelow(59, 58), true);
        check.due("at the row's far end", x.find(58, 0), top);
        check.due("at its near end", x.find(59, 0), last);
        check.due("the nearest first", x.find(59, 1), third);
        check.due("the farther one", x.find(57, 1), second);
        check.due("chosen at the near end", x.choose(59, second), third);
        check.due("chosen at the far end", x.choose(57, second), second);
        check.due("a final one at the far end", x.broken(59), last);
        check.due("special from the parent on, to the far end", x.special(59, 1, 0), top);
    }

    /** "(of a face it alone)" */
    private static void rowOfAFace(Check check) {
        ChooseTree x = new ChooseTree();
        int f = Trees.face(x);
        int mf = Trees.method(x, f, 0, Trees.PUBLIC, Trees.ABSTRACT);
        int g = Trees.face(x, f);
        int mg = Trees.method(x, g, 0, Trees.PUBLIC, Trees.ABSTRACT);
        int h = Trees.face(x, g);
        check.due("its own", x.find(g, 0), mg);
        check.due("none of its own: of the nearest and FACES", x.find(h, 0), mg);
        check.due("the face above", x.find(f, 0), mf);
        check.due("no final one in a face's row", x.broken(g), -1);
    }

    /** "(Whether a class may have abstract methods is not looked at.)" */
    private static void abstractInAnyClass(Check check) {
        ChooseTree x = new ChooseTree();
        int top = Trees.type(x, 0, 0);
        check.due("beside one that is not", x.method(top, 0, Trees.OPEN, Trees.PLAIN), 0);
        check.due("an open abstract one", x.method(top, 1, Trees.OPEN, Trees.ABSTRACT), 1);
        int low = Trees.type(x, top, 0);
        check.due("over one that is not", x.method(low, 0, Trees.PROTECTED, Trees.ABSTRACT), 2);
        check.due("it overrides", x.overrides(2, 0), true);
        check.due("it is found", x.find(low, 0), 2);
        int lowest = Trees.type(x, low, 0);
        check.due("a class below without methods", x.choose(lowest, 1), -25);
    }

    /** "none of which has one of that name in a face of c's FACES that is below its own": a face
     * below that is not of c's FACES hides nothing. */
    private static void nearestHiddenOnlyByFacesOfIts(Check check) {
        ChooseTree x = new ChooseTree();
        int f = Trees.face(x);
        int mf = Trees.method(x, f, 0, Trees.PUBLIC, Trees.PLAIN);
        int g = Trees.face(x, f);
        int mg = Trees.method(x, g, 0, Trees.PUBLIC, Trees.PLAIN);
        int c = Trees.type(x, 0, 0, f);
        Trees.method(x, c, 0, Trees.PUBLIC, Trees.PLAIN);
        int d = Trees.type(x, c, 0, g);
        check.due("a face below, not of c's", x.nearest(c, 0, 0), mf);
        check.due("no second", x.nearest(c, 0, 1), -1);
        check.due("a face below, of d's", x.nearest(d, 0, 0), mg);
        check.due("no second of d", x.nearest(d, 0, 1), -1);
        check.due("a face itself is not of its FACES", x.nearest(g, 0, 0), mf);
    }

    private static void nearestHiddenOnlyFromBelow(Check check) {
        ChooseTree x = new ChooseTree();
        int f = Trees.face(x);
        int mf = Trees.method(x, f, 0, Trees.PUBLIC, Trees.PLAIN);
        int g = Trees.face(x, f);
        int other = Trees.method(x, g, 1, Trees.PUBLIC, Trees.PLAIN);
        int h = Trees.face(x);
        int mh = Trees.method(x, h, 0, Trees.PUBLIC, Trees.PLAIN);
        int c = Trees.type(x, 0, 0, g, h);
        check.due("one below of another name hides nothing", x.nearest(c, 0, 0), mf);
        check.due("one beside hides nothing", x.nearest(c, 0, 1), mh);
        check.due("no third", x.nearest(c, 0, 2), -1);
        check.due("the other name", x.nearest(c, 1, 0), other);
        int k = Trees.face(x, g);
        int mk = Trees.method(x, k, 0, Trees.PUBLIC, Trees.ABSTRACT);
        int d = Trees.type(x, 0, 0, g, k);
        check.due("two steps below, over one without the name", x.nearest(d, 0, 0), mk);
        check.due("no second", x.nearest(d, 0, 1), -1);
    }
}
