/**
 * A refused call, or a question, leaves the tree as it was: a tree with the call and one without it
 * answer alike afterwards. For trees of at most 8 classes and 11 methods.
 */
final class Untouched {
    private static final int PARTS = 5;
    private static final int CLASSES = 9;
    private static final int METHODS = 12;
    private static final int[] NAMES = {0, 1, 2, 3, 31};

    interface Build {
        void on(ChooseTree x);
    }

    interface Call {
        long on(ChooseTree x);
    }

    private Untouched() {
    }

    static void due(Check check, String what, Build build, Call call, long answer) {
        for (int part = 0; part < PARTS; part++) {
            ChooseTree with = new ChooseTree();
            ChooseTree without = new ChooseTree();
            build.on(with);
            build.on(without);
            check.due(what, call.on(with), answer);
            String got = answers(with, part);
            boolean alike = got.equals(answers(without, part));
            check.due("after '" + what + "', the same answers of part " + part, alike, true);
        }
    }

    // In parts, each on a tree of its own: nothing is promised after the 512th call.
    private static String answers(ChooseTree x, int part) {
        StringBuilder all = new StringBuilder();
        switch (part) {
            case 0 -> shape(x, all);
            case 1 -> names(x, all);
            case 2 -> methods(x, all);
            case 3 -> specials(x, all);
            default -> whatComesNext(x, all);
        }
        return all.toString();
    }

    private static void shape(ChooseTree x, StringBuilder all) {
        for (int c = 0; c < CLASSES; c++) {
            for (int k = 0; k < CLASSES; k++) {
                all.append(x.isBelow(c, k)).append(' ').append(x.face(c, k)).append(' ');
            }
            all.append(x.broken(c)).append(' ');
        }
    }

    private static void names(ChooseTree x, StringBuilder all) {
        for (int c = 0; c < CLASSES; c++) {
            for (int name : NAMES) {
                all.append(x.find(c, name)).append(' ');
                for (int i = 0; i < 3; i++) {
                    all.append(x.nearest(c, name, i)).append(' ');
                }
            }
        }
    }

    private static void methods(ChooseTree x, StringBuilder all) {
        for (int m = 0; m < METHODS; m++) {
            for (int n = 0; n < METHODS; n++) {
                all.append(x.overrides(m, n)).append(' ');
            }
            for (int c = 0; c < CLASSES; c++) {
                all.append(x.choose(c, m)).append(' ');
            }
            all.append(x.kin(m)).append(' ');
        }
    }

    private static void specials(ChooseTree x, StringBuilder all) {
        for (int d = 0; d < CLASSES; d++) {
            for (int c = 0; c < CLASSES; c++) {
                for (int name = 0; name < 4; name++) {
                    all.append(x.special(d, c, name)).append(' ');
                }
            }
        }
    }

    private static void whatComesNext(ChooseTree x, StringBuilder all) {
        for (int c = 0; c < CLASSES; c++) {
            for (int f = 0; f < CLASSES; f++) {
                all.append(x.implement(c, f)).append(' ').append(x.face(c, f)).append(' ');
            }
        }
        for (int c = 0; c < CLASSES; c++) {
            for (int name : NAMES) {
                all.append(x.method(c, name, 1, 0)).append(' ').append(x.find(c, name)).append(' ');
            }
        }
        all.append(x.add(0, 0, 1)).append(' ').append(x.add(0, 0, 0)).append(' ');
        for (int c = 0; c < CLASSES; c++) {
            all.append(x.implement(c, 1)).append(' ').append(x.face(c, 0)).append(' ');
        }
    }
}
