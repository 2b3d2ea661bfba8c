/** Promise 1: a new object has class 0 alone: no face, package 0, without methods. */
public final class Promise01NewTest {
    public static void main(String[] args) {
        Check check = new Check();
        ChooseTree x = new ChooseTree();
        check.due("isBelow(0, 0)", x.isBelow(0, 0), true);
        check.due("isBelow(1, 1)", x.isBelow(1, 1), false);
        check.due("face(0, 0)", x.face(0, 0), -1);
        check.due("broken(0)", x.broken(0), -1);
        check.due("nearest(0, 0, 0)", x.nearest(0, 0, 0), -1);
        for (int name = 0; name < 32; name++) {
            check.due("find(0, " + name + ")", x.find(0, name), -1);
        }
        check.due("find(1, 0)", x.find(1, 0), -14);
        check.due("choose(0, 0)", x.choose(0, 0), -14);
        check.due("special(0, 0, 0)", x.special(0, 0, 0), -12);
        check.due("kin(0)", x.kin(0), -1);
        check.due("overrides(0, 0)", x.overrides(0, 0), false);
        check.due("the first class", x.add(0, 0, 0), 1);
        check.due("its first method", x.method(1, 0, 0, 0), 0);

        ChooseTree other = new ChooseTree();
        check.due("the first class of another object", other.add(0, 0, 0), 1);
        check.due("find(1, 0) of another object", other.find(1, 0), -1);
        check.end();
    }
}
