import java.util.Map;
import java.util.Random;
import java.util.TreeMap;

/**
 * Random runs of 512 calls from fixed seeds; every answer must be the model's. Most calls are drawn
 * so that they are not refused; how often each kind of answer came is looked at in the end.
 */
public final class ModelTest {
    private static final int RUNS = 1500;
    private static final int CALLS = 512;
    private static final int DRAWS = 8;
    private static final int ENOUGH = 100;
    private static final int[] ODD = {-1, Integer.MIN_VALUE, Integer.MAX_VALUE, 60, 400, 32};

    // What the document lets each call answer, "n" being any number from 0 on; but not that there
    // are 400 methods, which takes most of a run's calls and has its own tests.
    private static final String[] ANSWERS = {
        "add n", "add -14", "add -1", "add -12",
        "implement n", "implement -14", "implement -1", "implement -12",
        "method n", "method -14", "method -1",
        "isBelow true", "isBelow false",
        "face n", "face -1",
        "overrides true", "overrides false",
        "broken n", "broken -1",
        "nearest n", "nearest -1",
        "find n", "find -1", "find -14",
        "choose n", "choose -26", "choose -25", "choose -14",
        "special n", "special -25", "special -12", "special -21", "special -14",
        "kin n", "kin -1"};

    private final Random random;
    private final Check check;
    private final Map<String, Integer> seen;
    private final ChooseTree tree = new ChooseTree();
    private final Model model = new Model();
    private final int names;
    private final int packs;
    private final int facesInHundred;
    private final boolean wide;
    private final int seed;
    private int facesToGive = 0;
    private int methodsToGive = 0;

    private ModelTest(int seed, Check check, Map<String, Integer> seen) {
        this.seed = seed;
        this.check = check;
        this.seen = seen;
        random = new Random(seed);
        names = 1 + random.nextInt(random.nextInt(4) > 0 ? 3 : 32);
        packs = 1 + random.nextInt(4);
        wide = seed % 10 == 0;
        facesInHundred = wide ? 90 : 10 + random.nextInt(70);
    }

    public static void main(String[] args) {
        Check check = new Check();
        Map<String, Integer> seen = new TreeMap<>();
        for (int seed = 0; seed < RUNS; seed++) {
            ModelTest run = new ModelTest(seed, check, seen);
            int building = 25 + seed % 3 * 30;
            for (int i = 0; i < CALLS; i++) {
                if (run.random.nextInt(100) < building) {
                    run.build();
                } else {
                    run.ask();
                }
            }
        }
        for (String answer : ANSWERS) {
            int times = seen.getOrDefault(answer, 0);
            check.due("the random runs saw \"" + answer + "\" " + times + " times: enough",
                times >= ENOUGH, true);
        }
        check.end();
    }

    private boolean once(int inSoMany) {
        return random.nextInt(inSoMany) == 0;
    }

    private int below(int bound) {
        if (once(100)) {
            return ODD[random.nextInt(ODD.length)];
        }
        return random.nextInt(Math.max(1, bound));
    }

    private int anyClass() {
        return below(model.types() + (once(20) ? 1 : 0));
    }

    private int anyMethod() {
        return below(model.methods() + (once(20) ? 1 : 0));
    }

    /** A face, or a class that is none, mostly one of the newest, if one is drawn soon. */
    private int someClass(boolean face) {
        int c = anyClass();
        for (int i = 0; i < DRAWS && model.isFace(c) != face; i++) {
            c = random.nextBoolean() ? anyClass() : Math.max(0, model.types() - 1 - random.nextInt(5));
        }
        return c;
    }

    private int someClassBelow(int k) {
        int c = someClass(false);
        for (int i = 0; i < DRAWS && !model.isBelow(c, k); i++) {
            c = someClass(false);
        }
        return c;
    }

    private int latest() {
        return once(30) ? anyClass() : model.types() - 1;
    }

    private void saw(String name, String answer) {
        seen.merge(name + " " + answer, 1, Integer::sum);
    }

    private void due(int got, int want, String name, int... values) {
        saw(name, want < 0 ? Integer.toString(want) : "n");
        check.due(call(name, values), got, want);
    }

    private void due(boolean got, boolean want, String name, int... values) {
        saw(name, Boolean.toString(want));
        check.due(call(name, values), got, want);
    }

    private String call(String name, int... values) {
        StringBuilder text = new StringBuilder("seed " + seed + ": " + name);
        for (int value : values) {
            text.append(' ').append(value);
        }
        return text.toString();
    }

    private void build() {
        int what = once(15) ? random.nextInt(3) : facesToGive > 0 ? 1 : methodsToGive > 0 ? 2 : 0;
        if (what == 0) {
            add();
        } else if (what == 1) {
            facesToGive--;
            implement();
        } else {
            methodsToGive--;
            method();
        }
    }

    private void add() {
        int kind = once(50) ? below(3) : random.nextInt(100) < facesInHundred ? 1 : 0;
        int parent = once(10) ? anyClass() : kind == 1 ? 0 : someClass(false);
        int pack = below(packs);
        due(tree.add(parent, pack, kind), model.add(parent, pack, kind), "add", parent, pack, kind);
        facesToGive = wide ? (model.types() > 25 ? 60 : 0) : random.nextInt(4);
        methodsToGive = random.nextInt(4);
    }

    private void implement() {
        int c = latest();
        int f = someClass(true);
        due(tree.implement(c, f), model.implement(c, f), "implement", c, f);
    }

    private void method() {
        int c = latest();
        boolean plain = once(3) || model.isFace(c);
        int name = below(names);
        int sight = plain ? 1 : below(4);
        int kind = once(20) ? below(9) : once(3) ? 4 : plain ? 0 : random.nextInt(4);
        due(tree.method(c, name, sight, kind), model.method(c, name, sight, kind),
            "method", c, name, sight, kind);
    }

    private void ask() {
        int c = anyClass();
        int m = anyMethod();
        int name = below(names);
        int i = below(4);
        switch (random.nextInt(9)) {
            case 0 -> askBelow();
            case 1 -> due(tree.face(c, i), model.face(c, i), "face", c, i);
            case 2 -> askOverrides();
            case 3 -> due(tree.broken(c), model.broken(c), "broken", c);
            case 4 -> due(tree.nearest(c, name, i), model.nearest(c, name, i), "nearest", c, name, i);
            case 5 -> due(tree.find(c, name), model.find(c, name), "find", c, name);
            case 6 -> askChoose();
            case 7 -> askSpecial();
            default -> due(tree.kin(m), model.kin(m), "kin", m);
        }
    }

    private void askBelow() {
        int c = anyClass();
        int k = anyClass();
        due(tree.isBelow(c, k), model.isBelow(c, k), "isBelow", c, k);
    }

    private void askOverrides() {
        int a = anyMethod();
        int b = anyMethod();
        due(tree.overrides(a, b), model.overrides(a, b), "overrides", a, b);
    }

    private void askChoose() {
        int m = anyMethod();
        int c = once(20) ? anyClass() : someClassBelow(model.ownerOf(m));
        due(tree.choose(c, m), model.choose(c, m), "choose", c, m);
    }

    private void askSpecial() {
        int c = once(20) ? anyClass() : someClass(false);
        int d = once(20) ? anyClass() : once(3) ? someClass(false) : someClassBelow(c);
        int name = below(names);
        due(tree.special(d, c, name), model.special(d, c, name), "special", d, c, name);
    }
}
