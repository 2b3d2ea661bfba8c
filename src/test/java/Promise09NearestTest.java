/** Promise 9: nearest. */
public final class Promise09NearestTest {
    public static void main(String[] args) {
        Check check = new Check();
        ChooseTree x = new ChooseTree();
        int f = Trees.face(x);
        int mf = Trees.method(x, f, 0, Trees.PUBLIC, Trees.PLAIN);
        int empty = Trees.face(x, f);
        int g = Trees.face(x, empty);
        int mg = Trees.method(x, g, 0, Trees.PUBLIC, Trees.ABSTRACT);
        int h = Trees.face(x);
        int mh = Trees.method(x, h, 0, Trees.PUBLIC, Trees.PLAIN);
        int mh31 = Trees.method(x, h, 31, Trees.PUBLIC, Trees.PLAIN);
        int c = Trees.type(x, 0, 0, f, h);
        Trees.method(x, c, 0, Trees.PUBLIC, Trees.PLAIN);
        int d = Trees.type(x, c, 0, g);
        int e = Trees.type(x, d, 0, h);

        nearestAre(check, x, c, 0, mf, mh);
        nearestAre(check, x, d, 0, mg, mh);
        nearestAre(check, x, e, 0, mh, mg);
        nearestAre(check, x, g, 0, mf);
        nearestAre(check, x, empty, 0, mf);
        nearestAre(check, x, f, 0);
        nearestAre(check, x, h, 0);
        nearestAre(check, x, c, 31, mh31);
        nearestAre(check, x, c, 1);
        nearestAre(check, x, 0, 0);
        for (int odd : Trees.ODD) {
            check.due("nearest(" + odd + ", 0, 0)", x.nearest(odd, 0, 0), -1);
            check.due("nearest(c, " + odd + ", 0)", x.nearest(c, odd, 0), -1);
            check.due("nearest(c, 0, " + odd + ")", x.nearest(c, 0, odd), -1);
        }
        check.due("no such name", x.nearest(c, 32, 0), -1);
        check.due("not yet there", x.nearest(e + 1, 0, 0), -1);
        check.end();
    }

    private static void nearestAre(Check check, ChooseTree x, int c, int name, int... want) {
        for (int i = 0; i < want.length; i++) {
            String call = "nearest(" + c + ", " + name + ", " + i + ")";
            check.due(call, x.nearest(c, name, i), want[i]);
        }
        String call = "nearest(" + c + ", " + name + ", " + want.length + ")";
        check.due(call, x.nearest(c, name, want.length), -1);
        check.due("nearest(" + c + ", " + name + ", -1)", x.nearest(c, name, -1), -1);
    }
}
