import java.util.Random;

/** Many runs of calls, each call asked of FellTree and of the Model. The seeds are fixed. */
public final class ModelTest {
    /** What calls answer behind the 512th is free. */
    private static final int RUNS = 400, CALLS = 512, MOST_AT_ONCE = 11;

    private final Random random;
    private final int run;
    private final FellTree x = new FellTree();
    private final Model m = new Model();
    private int calls = 0;

    private ModelTest(int run) {
        this.run = run;
        random = new Random(run);
    }

    public static void main(String[] args) {
        for (int run = 0; run < RUNS && !Due.anyWrong(); run++) {
            new ModelTest(run).calls();
        }
        Due.end();
    }

    private void same(String call, long got, long want) {
        calls++;
        Due.is("run " + run + ", call " + calls + ": " + call, got, want);
    }

    /** Mostly from low to high, at times one beyond, seldom far beyond. */
    private int some(int low, int high) {
        int chance = random.nextInt(60);
        if (chance == 0) return low - 1;
        if (chance == 1) return high + 1;
        if (chance == 2) return random.nextInt();
        return low + random.nextInt(high - low + 1);
    }

    private int aTree() {
        int trees = m.count(0);
        return trees == 0 ? some(0, 5) : some(0, trees - 1);
    }

    private void calls() {
        grow(1 + random.nextInt(6));
        while (calls + MOST_AT_ONCE <= CALLS && !Due.anyWrong()) {
            int chance = random.nextInt(100);
            if (chance < 6) {
                feedAWood();
            } else if (chance < 45) {
                change();
            } else {
                ask();
            }
        }
    }

    private void grow(int trees) {
        for (int i = 0; i < trees; i++) {
            int kind = some(0, 6), v = some(0, 9), height = some(1, 7);
            int place = random.nextBoolean() ? 8 * some(2, 5) + some(2, 5) : some(0, 63);
            same("tree", x.tree(kind, v, place, height), m.tree(kind, v, place, height));
        }
    }

    private void change() {
        int tree = aTree();
        int chance = random.nextInt(16);
        if (chance == 0) {
            grow(1);
        } else if (chance <= 3) {
            int way = some(0, 7), lean = some(0, 9), hollow = some(0, 9);
            same("lean", x.lean(tree, way, lean, hollow), m.lean(tree, way, lean, hollow));
        } else if (chance <= 9) {
            int part = some(0, 5), n = some(0, part == 0 || part == 4 ? 7 : 9);
            same("plan", x.plan(tree, part, n), m.plan(tree, part, n));
        } else if (chance == 10) {
            long places = random.nextLong() & random.nextLong();
            same("things", x.things(places), m.things(places));
        } else if (chance == 11) {
            int n = random.nextBoolean() ? some(0, 10) : 10 * random.nextInt(2);
            same("gusts", x.gusts(n), m.gusts(n));
        } else if (chance == 12) {
            int way = some(0, 7);
            same("book", x.book(way), m.book(way));
        } else if (chance == 13) {
            if (random.nextInt(4) == 0) {
                same("fell", x.fell(tree), m.fell(tree));
            }
        } else if (chance == 14) {
            same("image", x.image(), m.image());
        } else if (random.nextInt(3) == 0) {
            same("undo", x.undo(), m.undo());
        }
    }

    private void ask() {
        int tree = aTree();
        switch (random.nextInt(20)) {
            case 0: int what = some(0, 7); same("of", x.of(tree, what), m.of(tree, what)); break;
            case 1: case 2: case 3: int w = some(0, 7); same("goes " + w, x.goes(tree, w), m.goes(tree, w)); break;
            case 4: same("lies", x.lies(tree), m.lies(tree)); break;
            case 5: askWide(tree); break;
            case 6: int way = some(0, 7); same("least", x.least(tree, way), m.least(tree, way)); break;
            case 7: case 8:
                int k = some(0, 1), part = some(0, 1);
                same("sure " + k + " " + part, x.sure(tree, k, part), m.sure(tree, k, part));
                break;
            case 9: same("stand", x.stand(tree), m.stand(tree)); break;
            case 10: case 11: int o = some(0, 4); same("order", x.order(o), m.order(o)); break;
            case 12: same("hung", x.hung(), m.hung()); break;
            case 13: int b = some(0, 7); same("blame", x.blame(tree, b), m.blame(tree, b)); break;
            case 14: int h = some(0, 4); same("knock", x.knock(tree, h), m.knock(tree, h)); break;
            case 15: same("limbs", x.limbs(tree), m.limbs(tree)); break;
            case 16: int j = some(0, 1); same("judged", x.judged(j), m.judged(j)); break;
            case 17:
                int act = some(0, 2), y = random.nextBoolean() ? some(-9, 9) : random.nextInt();
                same("act", x.act(tree, act, y), m.act(tree, act, y));
                for (int i = -1; i < 9; i++) same("trace " + i, x.trace(i), m.trace(i));
                break;
            case 18: int kind = some(0, 6); same("as", x.as(tree, kind), m.as(tree, kind)); break;
            default:
                int c = some(0, 5), t = some(0, 2);
                same("count " + c, x.count(c), m.count(c));
                same("told " + t, x.told(t), m.told(t));
                break;
        }
    }

    /** The Model tries 8000 PLANS for it: so not often. */
    private void askWide(int tree) {
        if (random.nextInt(6) == 0) {
            int n = some(0, 9);
            same("wide " + n, x.wide(tree, n), m.wide(tree, n));
        }
    }

    private void feedAWood() {
        String text = new WoodTexts(random).next();
        if (calls + text.length() + 1 > CALLS) {
            return;
        }
        for (int i = 0; i < text.length(); i++) {
            same("feed", x.feed(text.charAt(i)), m.feed(text.charAt(i)));
        }
        same("wood " + text, x.wood(), m.wood());
    }
}
