/** Short words for building trees in tests. */
final class Trees {
    static final int OPEN = 0;
    static final int PUBLIC = 1;
    static final int PROTECTED = 2;
    static final int PRIVATE = 3;
    static final int PLAIN = 0;
    static final int STATIC = 1;
    static final int FINAL = 2;
    static final int ABSTRACT = 4;
    static final int[] ODD = {-1, -2, Integer.MIN_VALUE, Integer.MAX_VALUE, 60, 61, 64, 400, 1000};

    private Trees() {
    }

    /** A new class that implements the faces. */
    static int type(ChooseTree x, int parent, int pack, int... faces) {
        return withFaces(x, must(x.add(parent, pack, 0)), faces);
    }

    /** A new face that implements the faces. */
    static int face(ChooseTree x, int... faces) {
        return withFaces(x, must(x.add(0, 0, 1)), faces);
    }

    static int method(ChooseTree x, int c, int name, int sight, int kind) {
        return must(x.method(c, name, sight, kind));
    }

    /**
     * Numbers that nothing has in a tree of under 32 classes and methods: beyond the ends, and those
     * that would become the number k (0 .. 31) in a narrower type, by a mask or by a shift's wrap.
     */
    static int[] strange(int k) {
        return new int[] {-1, -2, -14, -32, -60, -64, -400, ~k, Integer.MIN_VALUE,
            Integer.MIN_VALUE + k, Integer.MAX_VALUE, Integer.MAX_VALUE - k, 32 + k, 64 + k, 128 + k,
            256 + k, 400, 401, 512 + k, 1024 + k, 32768 + k, 65536 + k, (1 << 30) + k, k - 32,
            k - 64, k - 256, k - 65536};
    }

    /** Faces 1 and 2 (below 1), class 3 with methods 2 to 5, class 4 (below 3) without methods. */
    static void small(ChooseTree x) {
        int f = face(x);
        method(x, f, 0, PUBLIC, PLAIN);
        int g = face(x, f);
        method(x, g, 0, PUBLIC, ABSTRACT);
        int c = type(x, 0, 1, g);
        method(x, c, 0, OPEN, PLAIN);
        method(x, c, 1, PUBLIC, FINAL);
        method(x, c, 2, PUBLIC, STATIC);
        method(x, c, 3, PRIVATE, PLAIN);
        type(x, c, 2, f);
    }

    /** As small, and class 4 has method 6, of name 1, that overrides a final one. */
    static void smallWithLast(ChooseTree x) {
        small(x);
        method(x, 4, 1, PUBLIC, PLAIN);
    }

    /** The method of the given sight and kind in a class of package 0, and one below it. */
    static ChooseTree pair(int upperSight, int upperKind, int lowerPack, int lowerSight, int lowerKind) {
        ChooseTree x = new ChooseTree();
        method(x, type(x, 0, 0), 4, upperSight, upperKind);
        method(x, type(x, 1, lowerPack), 4, lowerSight, lowerKind);
        return x;
    }

    /** Classes 1 to 59, each the parent of the next. */
    static ChooseTree longestRow() {
        ChooseTree x = new ChooseTree();
        for (int c = 1; c < 60; c++) {
            type(x, c - 1, 0);
        }
        return x;
    }

    /** Faces 1 to 59, each implementing the one before. */
    static ChooseTree longestFaces() {
        ChooseTree x = new ChooseTree();
        face(x);
        for (int f = 2; f < 60; f++) {
            face(x, f - 1);
        }
        return x;
    }

    /** Classes 1 to 13 in a row with 400 methods: 32 names each, and the last one names 0 to 15. */
    static ChooseTree allMethods() {
        ChooseTree x = new ChooseTree();
        for (int m = 0; m < 400; m++) {
            if (m % 32 == 0) {
                type(x, m / 32, 0);
            }
            method(x, m / 32 + 1, m % 32, PUBLIC, PLAIN);
        }
        return x;
    }

    private static int withFaces(ChooseTree x, int c, int[] faces) {
        for (int f : faces) {
            must(x.implement(c, f));
        }
        return c;
    }

    private static int must(int answer) {
        if (answer < 0) {
            throw new IllegalStateException("a test could not build its tree: " + answer);
        }
        return answer;
    }
}
