/**
 * A tree of classes with faces and methods: which method overrides which, which one is found for a
 * name, and which is chosen for an object's class.
 */
public final class ChooseTree {
    private static final int MAX_CLASSES = 60;
    private static final int MAX_OWN_FACES = 20;
    private static final int MAX_METHODS = 400;
    private static final int PACKS = 10;
    private static final int NAMES = 32;

    private static final int NONE = -1;
    private static final int WRONG = -1;
    private static final int FULL = -12;
    private static final int NOT_FOUND = -12;
    private static final int NO_SUCH = -14;
    private static final int FOUND_STATIC = -21;
    private static final int NOTHING_TO_RUN = -25;
    private static final int SEVERAL = -26;

    private static final int PUBLIC = 1;
    private static final int PROTECTED = 2;
    private static final int PRIVATE = 3;

    private static final int STATIC = 1;
    private static final int FINAL = 2;
    private static final int ABSTRACT = 4;

    private final Classes classes;
    private final Methods methods;

    public ChooseTree() {
        classes = new Classes();
        methods = new Methods();
    }

    public int add(int parent, int pack, int kind) {
        if (!classes.isPlain(parent)) {
            return NO_SUCH;
        }
        boolean face = kind == 1;
        if (pack < 0 || pack >= PACKS || kind < 0 || kind > 1 || (face && parent != 0)) {
            return WRONG;
        }
        if (classes.count >= MAX_CLASSES) {
            return FULL;
        }
        return classes.append(parent, pack, face);
    }

    public int implement(int c, int f) {
        if (!classes.isLatest(c) || f == c || !classes.isFace(f)) {
            return NO_SUCH;
        }
        if (classes.latestImplements(f) || methods.amount[c] > 0) {
            return WRONG;
        }
        if (classes.ownAmount() >= MAX_OWN_FACES) {
            return FULL;
        }
        classes.giveFace(c, f);
        return classes.ownAmount();
    }

    public int method(int c, int name, int sight, int kind) {
        if (!classes.isLatest(c) || c == 0) {
            return NO_SUCH;
        }
        if (name < 0 || name >= NAMES || !fits(sight, kind, classes.face[c])) {
            return WRONG;
        }
        if (methods.inClass(c, name) != NONE) {
            return WRONG;
        }
        if (methods.count >= MAX_METHODS) {
            return FULL;
        }
        return methods.append(c, name, sight, kind);
    }

    public boolean isBelow(int c, int k) {
        return classes.exists(c) && classes.exists(k) && (c == k || classes.below(c, k));
    }

    public int face(int c, int i) {
        if (!classes.exists(c) || i < 0 || i >= classes.faceAmount[c]) {
            return NONE;
        }
        return classes.faceAt(c, i);
    }

    public boolean overrides(int a, int b) {
        return methods.exists(a) && methods.exists(b) && replaces(a, b);
    }

    public int broken(int c) {
        if (!classes.exists(c)) {
            return NONE;
        }
        int end = methods.first[c] + methods.amount[c];
        for (int m = methods.first[c]; m < end; m++) {
            if (replacesFinal(m)) {
                return m;
            }
        }
        return NONE;
    }

    public int nearest(int c, int name, int i) {
        if (!classes.exists(c) || i < 0) {
            return NONE;
        }
        long hidden = hiddenFaces(c, name);
        int before = 0;
        for (int j = 0; j < classes.faceAmount[c]; j++) {
            int m = nearestAt(c, name, j, hidden);
            if (m != NONE) {
                if (before == i) {
                    return m;
                }
                before++;
            }
        }
        return NONE;
    }

    public int find(int c, int name) {
        if (!classes.exists(c)) {
            return NO_SUCH;
        }
        int inRow = firstInRow(c, name);
        if (inRow != NONE) {
            return inRow;
        }
        int concrete = onlyConcreteNearest(c, name);
        return concrete >= 0 ? concrete : firstInFaces(c, name);
    }

    public int choose(int c, int m) {
        if (!classes.isPlain(c) || !methods.exists(m) || methods.isStatic(m)) {
            return NO_SUCH;
        }
        if (!isBelow(c, methods.owner[m])) {
            return NO_SUCH;
        }
        if (methods.isPrivate(m)) {
            return m;
        }
        int inRow = firstReplacing(c, m);
        if (inRow != NONE) {
            return unlessAbstract(inRow);
        }
        int concrete = onlyConcreteNearest(c, methods.name[m]);
        return concrete == NONE ? NOTHING_TO_RUN : concrete;
    }

    public int special(int d, int c, int name) {
        if (!classes.isPlain(d) || !classes.isPlain(c)) {
            return NO_SUCH;
        }
        int found = find(c, name);
        if (found < 0) {
            return NOT_FOUND;
        }
        if (methods.isStatic(found)) {
            return FOUND_STATIC;
        }
        boolean fromFound = methods.isPrivate(found) || !classes.below(d, c);
        int start = fromFound ? c : classes.parent[d];
        int inRow = firstInstanceInRow(start, name);
        if (inRow != NONE) {
            return unlessAbstract(inRow);
        }
        int concrete = onlyConcreteNearest(start, name);
        // The document names no answer of its own for several, so they count as none.
        return concrete >= 0 ? concrete : NOTHING_TO_RUN;
    }

    public int kin(int m) {
        if (!methods.exists(m)) {
            return NONE;
        }
        int amount = 0;
        for (int x = 0; x < methods.count; x++) {
            // One that is related both ways is one method, and counts once.
            if (replacesFromBelow(x, m) || replacesOfPlain(m, x)) {
                amount++;
            }
        }
        return amount;
    }

    private static boolean fits(int sight, int kind, boolean inFace) {
        if (sight < 0 || sight > PRIVATE || kind < 0 || kind > ABSTRACT) {
            // Beyond ABSTRACT there are only sums of it with static or final.
            return false;
        }
        if (inFace) {
            return sight == PUBLIC && (kind == 0 || kind == ABSTRACT);
        }
        return kind != ABSTRACT || sight != PRIVATE;
    }

    private boolean replaces(int a, int b) {
        if (!couldReplace(a, b)) {
            return false;
        }
        return methods.isPublicOrProtected(b)
            || classes.pack[methods.owner[a]] == classes.pack[methods.owner[b]]
            || replacesBetween(a, b);
    }

    private boolean couldReplace(int a, int b) {
        return a != b
            && methods.name[a] == methods.name[b]
            && methods.isVirtual(a)
            && methods.isVirtual(b);
    }

    /**
     * Whether a overrides a method between that is of b's package. Each step of such a chain stays in
     * b's package, which is not a's, so its last one is public or protected, and is itself between:
     * looking for that one alone spares the recursion.
     */
    private boolean replacesBetween(int a, int b) {
        int from = methods.owner[a];
        int goal = methods.owner[b];
        for (int k = from - 1; k >= 0; k--) {
            if (!classes.inRow(from, k)) {
                continue;
            }
            if (k == goal) {
                return false;
            }
            int x = methods.inClass(k, methods.name[a]);
            if (x != NONE && classes.pack[k] == classes.pack[goal]
                && methods.isVirtual(x) && methods.isPublicOrProtected(x)) {
                return true;
            }
        }
        return false;
    }

    private boolean replacesFinal(int m) {
        int c = methods.owner[m];
        for (int k = c - 1; k >= 0; k--) {
            if (classes.inRow(c, k)) {
                int x = methods.inClass(k, methods.name[m]);
                if (x != NONE && methods.isFinal(x) && replaces(m, x)) {
                    return true;
                }
            }
        }
        return false;
    }

    private boolean replacesFromBelow(int x, int m) {
        return classes.below(methods.owner[x], methods.owner[m]) && replaces(x, m);
    }

    private boolean replacesOfPlain(int m, int x) {
        return !classes.face[methods.owner[x]] && replaces(m, x);
    }

    private int firstInRow(int c, int name) {
        for (int k = c; k >= 0; k--) {
            if (classes.inRow(c, k)) {
                int x = methods.inClass(k, name);
                if (x != NONE) {
                    return x;
                }
            }
        }
        return NONE;
    }

    private int firstInstanceInRow(int c, int name) {
        for (int k = c; k >= 0; k--) {
            if (classes.inRow(c, k)) {
                int x = methods.inClass(k, name);
                if (x != NONE && !methods.isStatic(x)) {
                    return x;
                }
            }
        }
        return NONE;
    }

    private int firstReplacing(int c, int m) {
        for (int k = c; k >= 0; k--) {
            if (classes.inRow(c, k)) {
                int x = methods.inClass(k, methods.name[m]);
                if (x != NONE && (x == m || replaces(x, m))) {
                    return x;
                }
            }
        }
        return NONE;
    }

    private int firstInFaces(int c, int name) {
        for (int i = 0; i < classes.faceAmount[c]; i++) {
            int m = methods.inClass(classes.faceAt(c, i), name);
            if (m != NONE) {
                return m;
            }
        }
        return NONE;
    }

    /** The classes above those of c's FACES that have the name: no method of theirs is a nearest. */
    private long hiddenFaces(int c, int name) {
        long hidden = 0;
        for (int i = 0; i < classes.faceAmount[c]; i++) {
            int f = classes.faceAt(c, i);
            if (methods.inClass(f, name) != NONE) {
                hidden |= classes.above[f];
            }
        }
        return hidden;
    }

    /** The method of the i-th of c's FACES, if it is one of the nearest. */
    private int nearestAt(int c, int name, int i, long hidden) {
        int f = classes.faceAt(c, i);
        return holds(hidden, f) ? NONE : methods.inClass(f, name);
    }

    private int onlyConcreteNearest(int c, int name) {
        long hidden = hiddenFaces(c, name);
        int only = NONE;
        for (int i = 0; i < classes.faceAmount[c]; i++) {
            int m = nearestAt(c, name, i, hidden);
            if (m != NONE && !methods.isAbstract(m)) {
                if (only != NONE) {
                    return SEVERAL;
                }
                only = m;
            }
        }
        return only;
    }

    private int unlessAbstract(int m) {
        return methods.isAbstract(m) ? NOTHING_TO_RUN : m;
    }

    private static boolean holds(long set, int c) {
        return (set >>> c & 1L) != 0;
    }

    /** The classes, and for each the FACES and what it is below. Class 0 is there from the beginning. */
    private static final class Classes {
        int count = 1;
        final int[] parent = new int[MAX_CLASSES];
        final int[] pack = new int[MAX_CLASSES];
        final boolean[] face = new boolean[MAX_CLASSES];
        final long[] above = new long[MAX_CLASSES];
        final int[] faceAmount = new int[MAX_CLASSES];

        // The FACES of all classes one behind the other. Only the latest class gets more of them, and
        // its part is the last. Class c has fewer than c, which bounds the whole.
        private final int[] faceStart = new int[MAX_CLASSES];
        private final int[] faceList = new int[MAX_CLASSES * MAX_CLASSES / 2];

        // What the latest class implements itself, and how many of its FACES come from there.
        private long ownFaces = 0;
        private int ownPart = 0;

        boolean exists(int c) {
            return c >= 0 && c < count;
        }

        boolean isFace(int c) {
            return exists(c) && face[c];
        }

        boolean isPlain(int c) {
            return exists(c) && !face[c];
        }

        boolean isLatest(int c) {
            return c == count - 1;
        }

        boolean below(int c, int k) {
            return holds(above[c], k);
        }

        /** Whether k is in c's row. Parents are earlier, so the row goes from c downwards by number. */
        boolean inRow(int c, int k) {
            return c == k || (!face[c] && !face[k] && below(c, k));
        }

        int faceAt(int c, int i) {
            return faceList[faceStart[c] + i];
        }

        int append(int itsParent, int itsPack, boolean isFace) {
            int c = count;
            faceStart[c] = faceStart[c - 1] + faceAmount[c - 1];
            parent[c] = itsParent;
            pack[c] = itsPack;
            face[c] = isFace;
            above[c] = above[itsParent] | 1L << itsParent;
            ownFaces = 0;
            ownPart = 0;
            listFacesOf(c, itsParent);
            count++;
            return c;
        }

        boolean latestImplements(int f) {
            return holds(ownFaces, f);
        }

        int ownAmount() {
            return Long.bitCount(ownFaces);
        }

        void giveFace(int c, int f) {
            ownFaces |= 1L << f;
            above[c] |= above[f] | 1L << f;
            // The parent's come last: they are taken off and put behind the new ones again.
            faceAmount[c] = ownPart;
            listFace(c, f);
            listFacesOf(c, f);
            ownPart = faceAmount[c];
            listFacesOf(c, parent[c]);
        }

        private void listFacesOf(int c, int from) {
            int amount = faceAmount[from];
            for (int i = 0; i < amount; i++) {
                listFace(c, faceAt(from, i));
            }
        }

        private void listFace(int c, int f) {
            for (int i = 0; i < faceAmount[c]; i++) {
                if (faceAt(c, i) == f) {
                    return;
                }
            }
            int place = faceStart[c] + faceAmount[c];
            if (place < faceList.length) {
                faceList[place] = f;
                faceAmount[c]++;
            }
        }
    }

    /** The methods. Only the latest class gets any, so those of one class have numbers in a row. */
    private static final class Methods {
        int count = 0;
        final int[] owner = new int[MAX_METHODS];
        final int[] name = new int[MAX_METHODS];
        final int[] first = new int[MAX_CLASSES];
        final int[] amount = new int[MAX_CLASSES];
        private final int[] sight = new int[MAX_METHODS];
        private final int[] kind = new int[MAX_METHODS];

        boolean exists(int m) {
            return m >= 0 && m < count;
        }

        boolean isStatic(int m) {
            return (kind[m] & STATIC) != 0;
        }

        boolean isFinal(int m) {
            return (kind[m] & FINAL) != 0;
        }

        boolean isAbstract(int m) {
            return (kind[m] & ABSTRACT) != 0;
        }

        boolean isPrivate(int m) {
            return sight[m] == PRIVATE;
        }

        boolean isVirtual(int m) {
            return !isStatic(m) && !isPrivate(m);
        }

        boolean isPublicOrProtected(int m) {
            return sight[m] == PUBLIC || sight[m] == PROTECTED;
        }

        int inClass(int c, int itsName) {
            int end = first[c] + amount[c];
            for (int m = first[c]; m < end; m++) {
                if (name[m] == itsName) {
                    return m;
                }
            }
            return NONE;
        }

        int append(int c, int itsName, int itsSight, int itsKind) {
            int m = count;
            if (amount[c] == 0) {
                first[c] = m;
            }
            amount[c]++;
            owner[m] = c;
            name[m] = itsName;
            sight[m] = itsSight;
            kind[m] = itsKind;
            count++;
            return m;
        }
    }
}
