import java.util.Random;

/** Random runs of 512 calls from fixed seeds; every answer must be the model's. */
public final class ModelTest {
    private static final int CALLS = 512;
    private static final int[] ODD = {-1, Integer.MIN_VALUE, Integer.MAX_VALUE, 60, 400, 32};

    private final Random random;
    private final Check check;
    private final ChooseTree tree = new ChooseTree();
    private final Model model = new Model();
    private final int names;
    private final int packs;
    private final int seed;

    private ModelTest(int seed, Check check) {
        this.seed = seed;
        this.check = check;
        random = new Random(seed);
        names = 1 + random.nextInt(random.nextBoolean() ? 3 : 32);
        packs = 1 + random.nextInt(4);
    }

    public static void main(String[] args) {
        Check check = new Check();
        for (int seed = 0; seed < 1500; seed++) {
            ModelTest run = new ModelTest(seed, check);
            int building = 25 + seed % 3 * 30;
            for (int i = 0; i < CALLS; i++) {
                if (run.random.nextInt(100) < building) {
                    run.build();
                } else {
                    run.ask();
                }
            }
        }
        check.end();
    }

    private int below(int bound) {
        if (random.nextInt(100) == 0) {
            return ODD[random.nextInt(ODD.length)];
        }
        return random.nextInt(Math.max(1, bound));
    }

    private int anyClass() {
        return below(model.types() + (random.nextInt(20) == 0 ? 1 : 0));
    }

    private int latest() {
        return random.nextInt(30) == 0 ? anyClass() : model.types() - 1;
    }

    private int anyMethod() {
        return below(model.methods() + (random.nextInt(20) == 0 ? 1 : 0));
    }

    private String call(String name, int... values) {
        StringBuilder text = new StringBuilder("seed " + seed + ": " + name);
        for (int value : values) {
            text.append(' ').append(value);
        }
        return text.toString();
    }

    private void build() {
        int what = random.nextInt(10);
        if (what < 3) {
            int kind = below(2);
            int parent = kind == 1 && random.nextInt(20) > 0 ? 0 : recentClass();
            int pack = below(packs);
            check.due(call("add", parent, pack, kind),
                tree.add(parent, pack, kind), model.add(parent, pack, kind));
        } else if (what < 6) {
            int c = latest();
            int f = anyClass();
            check.due(call("implement", c, f), tree.implement(c, f), model.implement(c, f));
        } else {
            int c = latest();
            int name = below(names);
            int sight = random.nextBoolean() ? 1 : below(4);
            int kind = random.nextBoolean() ? 0 : random.nextBoolean() ? 4 : below(8);
            check.due(call("method", c, name, sight, kind),
                tree.method(c, name, sight, kind), model.method(c, name, sight, kind));
        }
    }

    private int recentClass() {
        int back = random.nextInt(3);
        return random.nextBoolean() ? anyClass() : Math.max(0, model.types() - 1 - back);
    }

    private void ask() {
        int c = anyClass();
        int k = anyClass();
        int m = anyMethod();
        int n = anyMethod();
        int name = below(names);
        int i = below(4);
        switch (random.nextInt(9)) {
            case 0 -> check.due(call("isBelow", c, k), tree.isBelow(c, k), model.isBelow(c, k));
            case 1 -> check.due(call("face", c, i), tree.face(c, i), model.face(c, i));
            case 2 -> check.due(call("overrides", m, n), tree.overrides(m, n), model.overrides(m, n));
            case 3 -> check.due(call("broken", c), tree.broken(c), model.broken(c));
            case 4 -> check.due(call("nearest", c, name, i),
                tree.nearest(c, name, i), model.nearest(c, name, i));
            case 5 -> check.due(call("find", c, name), tree.find(c, name), model.find(c, name));
            case 6 -> check.due(call("choose", c, m), tree.choose(c, m), model.choose(c, m));
            case 7 -> check.due(call("special", c, k, name),
                tree.special(c, k, name), model.special(c, k, name));
            default -> check.due(call("kin", m), tree.kin(m), model.kin(m));
        }
    }
}
