/** Promise 5: isBelow. */
public final class Promise05IsBelowTest {
    public static void main(String[] args) {
        Check check = new Check();
        ChooseTree x = new ChooseTree();
        int f = Trees.face(x);
        int g = Trees.face(x, f);
        int h = Trees.face(x);
        int c = Trees.type(x, 0, 0, g);
        int d = Trees.type(x, c, 0);
        int e = Trees.type(x, d, 0, h);
        int other = Trees.type(x, c, 0);
        boolean[][] due = new boolean[8][8];
        int[][] above = {{f, 0}, {g, f, 0}, {h, 0}, {c, g, f, 0}, {d, c, g, f, 0},
            {e, d, c, g, f, h, 0}, {other, c, g, f, 0}};
        due[0][0] = true;
        for (int[] row : above) {
            for (int k : row) {
                due[row[0]][k] = true;
            }
        }
        for (int a = 0; a < 8; a++) {
            for (int b = 0; b < 8; b++) {
                check.due("isBelow(" + a + ", " + b + ")", x.isBelow(a, b), due[a][b]);
            }
        }
        for (int odd : Trees.ODD) {
            check.due("isBelow(" + odd + ", 0)", x.isBelow(odd, 0), false);
            check.due("isBelow(0, " + odd + ")", x.isBelow(0, odd), false);
            check.due("isBelow(" + odd + ", itself)", x.isBelow(odd, odd), false);
        }
        check.due("not yet there", x.isBelow(8, 0), false);
        check.end();
    }
}
