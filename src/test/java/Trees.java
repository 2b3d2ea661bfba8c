/** Short words for building trees in tests. */
final class Trees {
    static final int OPEN = 0;
    static final int PUBLIC = 1;
    static final int PROTECTED = 2;
    static final int PRIVATE = 3;
    static final int PLAIN = 0;
    static final int STATIC = 1;
    static final int FINAL = 2;
    static final int ABSTRACT = 4;
    static final int[] ODD = {-1, -2, Integer.MIN_VALUE, Integer.MAX_VALUE, 60, 61, 64, 400, 1000};

    private Trees() {
    }

    /** A new class that implements the faces. */
    static int type(ChooseTree x, int parent, int pack, int... faces) {
        return withFaces(x, must(x.add(parent, pack, 0)), faces);
    }

    /** A new face that implements the faces. */
    static int face(ChooseTree x, int... faces) {
        return withFaces(x, must(x.add(0, 0, 1)), faces);
    }

    static int method(ChooseTree x, int c, int name, int sight, int kind) {
        return must(x.method(c, name, sight, kind));
    }

    private static int withFaces(ChooseTree x, int c, int[] faces) {
        for (int f : faces) {
            must(x.implement(c, f));
        }
        return c;
    }

    private static int must(int answer) {
        if (answer < 0) {
            throw new IllegalStateException("a test could not build its tree: " + answer);
        }
        return answer;
    }
}
