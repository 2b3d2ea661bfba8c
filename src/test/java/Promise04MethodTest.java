/** Promise 4: method. */
public final class Promise04MethodTest {
    public static void main(String[] args) {
        Check check = new Check();
        answers(check);
        together(check);
        limit(check);
        check.end();
    }

    private static void answers(Check check) {
        ChooseTree x = new ChooseTree();
        check.due("class 0", x.method(0, 0, 0, 0), -14);
        int c = Trees.type(x, 0, 0);
        check.due("name 0", x.method(c, 0, 0, 0), 0);
        check.due("name 31", x.method(c, 31, 0, 0), 1);
        check.due("name 0 again", x.method(c, 0, 1, 0), -1);
        check.due("name 32", x.method(c, 32, 0, 0), -1);
        check.due("sight 4", x.method(c, 1, 4, 0), -1);
        check.due("kind 8", x.method(c, 1, 0, 8), -1);
        check.due("class 0 no longer the latest", x.method(0, 0, 0, 0), -14);
        for (int odd : Trees.ODD) {
            check.due("class " + odd, x.method(odd, 1, 0, 0), -14);
            check.due("name " + odd, x.method(c, odd, 0, 0), -1);
            check.due("sight " + odd, x.method(c, 1, odd, 0), -1);
            check.due("kind " + odd, x.method(c, 1, 0, odd), -1);
        }
        check.due("no class, no name", x.method(9, 99, 9, 9), -14);
        int d = Trees.type(x, c, 0);
        check.due("not the latest", x.method(c, 1, 0, 0), -14);
        check.due("the parent's name", x.method(d, 0, 0, 0), 2);
        check.due("found in d", x.find(d, 0), 2);
        check.due("found in c", x.find(c, 0), 0);
        check.due("a refusal makes none", x.find(c, 1), -1);
    }

    private static void together(Check check) {
        for (int sight = 0; sight <= 3; sight++) {
            for (int kind = 0; kind <= 7; kind++) {
                boolean isAbstract = kind >= 4;
                boolean good = !isAbstract || (kind == 4 && sight != 3);
                ChooseTree x = new ChooseTree();
                int c = Trees.type(x, 0, 0);
                String what = "sight " + sight + ", kind " + kind;
                check.due("of a class: " + what, x.method(c, 5, sight, kind), good ? 0 : -1);
                int f = Trees.face(x);
                boolean goodInFace = sight == 1 && (kind == 0 || kind == 4);
                int number = good ? 1 : 0;
                check.due("of a face: " + what, x.method(f, 5, sight, kind), goodInFace ? number : -1);
            }
        }
    }

    private static void limit(Check check) {
        ChooseTree x = new ChooseTree();
        int made = 0;
        for (int c = 1; c <= 13; c++) {
            Trees.type(x, c - 1, 0);
            for (int name = 0; name < 32 && made < 400; name++) {
                check.due("method " + made, x.method(c, name, 1, 0), made);
                made++;
            }
        }
        check.due("one too many", x.method(13, 31, 1, 0), -12);
        check.due("full, has the name", x.method(13, 0, 1, 0), -1);
        check.due("full, no name", x.method(13, 32, 1, 0), -1);
        check.due("full, not the latest", x.method(12, 0, 1, 0), -14);
        check.due("the last", x.find(13, 15), 399);
        check.due("not there", x.kin(400), -1);
    }
}
