/** Promises 25 to 30: act, trace, as, image, undo, count. */
public final class ActsAndImageTest {
    public static void main(String[] args) {
        acts();
        actsWrap();
        actsRefused();
        as();
        image();
        imageOfAllThereIs();
        imageIsTakenAnew();
        imageOfBookAndSix();
        imageOfWoods();
        count();
        Due.end();
    }

    private static FellTree sixKinds() {
        FellTree x = new FellTree();
        int[] v = {3, 4, 2, 1, 5, 6};
        for (int kind = 0; kind < 6; kind++) {
            x.tree(kind, v[kind], 10 + kind, 1);
        }
        return x;
    }

    private static void act(FellTree x, int tree, int act, int due, int... trace) {
        String call = "act(" + tree + ", " + act + ", 5)";
        Due.is("25: " + call, x.act(tree, act, 5), due);
        Due.is("30: bodies of " + call, x.count(4), trace.length);
        for (int i = 0; i < trace.length; i++) {
            Due.is("26: trace(" + i + ") of " + call, x.trace(i), trace[i]);
        }
        Due.is("26: trace behind the last of " + call, x.trace(trace.length), FellTree.NONE);
        Due.is("26: trace(-1)", x.trace(-1), FellTree.NONE);
    }

    private static void acts() {
        FellTree x = sixKinds();
        act(x, 0, 0, 5, 1);
        act(x, 0, 1, 2, 2, 1);
        act(x, 0, 2, 4, 3, 2, 1);
        act(x, 1, 0, 16, 11, 1);
        act(x, 1, 1, 12, 2, 11, 1);
        act(x, 1, 2, 24, 3, 2, 11, 1);
        act(x, 2, 0, 7, 1);
        act(x, 2, 1, -5, 21, 2, 1);
        act(x, 2, 2, -10, 3, 21, 2, 1);
        act(x, 3, 0, 8, 1);
        act(x, 3, 1, 7, 2, 1);
        act(x, 3, 2, 9, 31, 3, 2, 1);
        act(x, 4, 0, 19, 11, 1);
        act(x, 4, 1, 14, 2, 11, 1);
        act(x, 4, 2, 32, 41, 3, 2, 11, 1, 11, 1);
        act(x, 5, 0, 15, 51, 1);
        act(x, 5, 1, -9, 21, 2, 51, 1);
        act(x, 5, 2, -18, 3, 21, 2, 51, 1);
        FellTree y = new FellTree();
        y.tree(6, 2, 0, 1);
        act(y, 0, 0, 5, 1);
        act(y, 0, 1, 5, 61, 2, 1);
        act(y, 0, 2, 13, 31, 3, 61, 2, 1);
        Due.is("12: fell", x.fell(1), 0);
        act(x, 1, 0, 16, 11, 1);
    }

    private static void actsWrap() {
        FellTree x = sixKinds();
        Due.is("25: wraps", x.act(1, 0, Integer.MAX_VALUE), 2147483646);
        Due.is("25: wraps", x.act(0, 2, Integer.MAX_VALUE), -8);
        Due.is("25: wraps", x.act(0, 1, Integer.MIN_VALUE), 2147483645);
        Due.is("25: wraps", x.act(5, 0, Integer.MAX_VALUE), Integer.MIN_VALUE + 4 ^ 5);
        Due.is("25: wraps", x.act(4, 2, Integer.MIN_VALUE), (Integer.MAX_VALUE * 3 + 4 - 5) * 2 + 10);
    }

    private static void actsRefused() {
        FellTree x = sixKinds();
        int[][] refused = {{6, 0}, {-1, 0}, {0, 3}, {0, -1}, {Integer.MIN_VALUE, Integer.MAX_VALUE}};
        for (int[] of : refused) {
            x.act(4, 2, 5);
            Due.is("25: no such", x.act(of[0], of[1], 5), 0);
            Due.is("26: no TRACE then", x.trace(0), FellTree.NONE);
            Due.is("30: no bodies then", x.count(4), 0);
        }
    }

    private static void as() {
        int[][] fits = {{1, 0, 0, 0, 0, 0, 0}, {1, 1, 0, 0, 0, 0, 0}, {1, 0, 1, 0, 0, 0, 0}, {1, 0, 0, 1, 0, 0, 0},
            {1, 1, 0, 0, 1, 0, 0}, {1, 0, 1, 0, 0, 1, 0}, {1, 0, 0, 1, 0, 0, 1}};
        for (int kind = 0; kind < 7; kind++) {
            FellTree x = new FellTree();
            x.tree(kind, 8, 0, 1);
            for (int k = 0; k < 7; k++) {
                Due.is("27: " + kind + " as " + k, x.as(0, k), fits[kind][k] == 1 ? 8 : -6);
            }
            Due.is("27: k", x.as(0, 7), FellTree.NONE);
            Due.is("27: k", x.as(0, -1), FellTree.NONE);
            Due.is("27: tree", x.as(1, 0), FellTree.NONE);
            Due.is("27: tree", x.as(-1, 0), FellTree.NONE);
            x.fell(0);
            Due.is("27: one that has gone too", x.as(0, 0), 8);
        }
    }

    private static void image() {
        FellTree x = new FellTree();
        Due.is("29: none", x.undo(), FellTree.STATE);
        Due.is("28: image", x.image(), 0);
        x.tree(0, 0, 1, 1);
        Due.is("29: undo", x.undo(), 0);
        Due.is("29: no TREE", x.of(0, 0), FellTree.NONE);
        x.tree(5, 3, 2, 2);
        Due.is("28: image", x.image(), 1);
        x.tree(0, 0, 3, 1);
        Due.is("29: undo", x.undo(), 1);
        Due.is("29: undo again", x.undo(), 1);
        Due.is("29: the TREE", x.of(0, 0), 5);
        Due.is("29: the other's number is free", x.tree(1, 1, 9, 7), 1);
        Due.is("29: a new TREE is new", x.of(1, 3), 7);
        x.lean(1, 2, 9, 9);
        Due.plan(x, 1, 1, 2, 3, 4, 5, 6);
        x.fell(1);
        x.undo();
        Due.is("29: and once more", x.tree(1, 1, 9, 7), 1);
        int[] of = {1, 1, 9, 7, 0, 0, 0, 1};
        for (int what = 0; what < 8; what++) {
            Due.is("6: of a new TREE " + what, x.of(1, what), of[what]);
        }
        for (int part = 0; part < 6; part++) {
            Due.is("6: the PLAN of a new TREE " + part, x.plan(1, part, 0), 0);
        }
    }

    private static void imageOfAllThereIs() {
        FellTree x = new FellTree();
        x.tree(2, 4, 27, 5);
        x.lean(0, 3, 6, 7);
        Due.plan(x, 0, 1, 2, 3, 4, 5, 6);
        x.things(Due.places(1, 2, 63));
        Due.wood(x, "wedge 9;hold 5 t=0");
        x.gusts(4);
        x.book(3);
        x.book(4);
        x.feed('r');
        x.feed('o');
        x.act(0, 0, 1);
        int strength = x.goes(0, 2);
        Due.is("10: STRENGTH", strength, 27);
        Due.is("28: image", x.image(), 1);
        change(x);
        Due.is("29: undo", x.undo(), 1);
        int[] of = {2, 4, 27, 5, 6, 3, 7, 1};
        for (int what = 0; what < 8; what++) {
            Due.is("29: of(0, " + what + ")", x.of(0, what), of[what]);
        }
        for (int part = 0; part < 6; part++) {
            Due.is("29: plan " + part, x.plan(0, part, part + 1), part + 1);
        }
        Due.is("29: THINGS", x.things(0), 3);
        Due.is("29: wedge", x.told(0), 9);
        Due.is("29: rope", x.told(1), 2);
        Due.is("29: gusts", x.told(2), 4);
        Due.is("29: STRENGTH", x.goes(0, 2), strength);
        Due.is("29: WOODS", x.count(1), 1);
        Due.is("29: BOOK", x.count(2), 2);
        Due.is("29: TAPE", x.count(3), 2);
        Due.is("29: THE TRACE stays", x.count(4), 4);
        Due.is("29: THE TRACE stays", x.trace(0), 3);
        Due.is("29: the signs of THE TAPE", Due.wood(x, "pe 8"), 1);
        Due.is("29: the signs of THE TAPE", x.told(1), 8);
        Due.is("29: all is as THE IMAGE once more", x.undo(), 1);
        Due.is("29: rope", x.told(1), 2);
    }

    private static void change(FellTree x) {
        x.lean(0, 1, 9, 0);
        Due.plan(x, 0, 2, 0, 0, 9, 6, 9);
        x.things(-1);
        x.feed('z');
        x.wood();
        Due.wood(x, "wedge 1;rope 1");
        Due.wood(x, "wedge 2");
        x.gusts(10);
        x.book(-1);
        x.book(7);
        x.fell(0);
        x.tree(0, 0, 3, 1);
        x.feed('x');
        x.act(0, 2, 4);
    }

    private static void imageIsTakenAnew() {
        FellTree x = new FellTree();
        x.tree(0, 0, 1, 1);
        x.image();
        x.gusts(3);
        x.fell(0);
        Due.is("28: image", x.image(), 1);
        x.gusts(5);
        Due.is("29: undo", x.undo(), 1);
        Due.is("29: gusts", x.told(2), 3);
        Due.is("29: not STANDING", x.of(0, 7), 0);
        x.lean(0, 1, 5, 5);
        x.undo();
        Due.is("29: THE IMAGE is no part of what there is", x.of(0, 4), 0);
    }

    private static void imageOfBookAndSix() {
        FellTree x = sixKinds();
        for (int tree = 0; tree < 6; tree++) {
            x.plan(tree, 0, tree);
            x.book(tree);
        }
        int right = x.judged(0);
        Due.is("28: image", x.image(), 6);
        x.book(-1);
        for (int tree = 0; tree < 6; tree++) {
            x.book(6);
        }
        Due.is("24: none is RIGHT", x.judged(0), 0);
        Due.is("29: undo", x.undo(), 6);
        Due.is("29: the WAYS of the BOOK", x.judged(0), right);
        Due.is("24: FALL, TRUE and HUNG", right, 3);
        Due.is("24: SWUNG is TORN OFF", x.judged(1), 2);
    }

    private static void imageOfWoods() {
        FellTree x = new FellTree();
        for (int i = 0; i < 4; i++) {
            Due.wood(x, "wedge " + i);
        }
        x.image();
        for (int i = 0; i < 10; i++) {
            Due.is("29: the number is free again", Due.wood(x, "rope " + i), 4);
            Due.is("4: FULL", x.wood(), FellTree.FULL);
            x.undo();
            Due.is("29: the WOOD that held", x.told(0), 3);
            Due.is("29: the WOOD that held", x.told(1), 2);
        }
    }

    private static void count() {
        FellTree x = sixKinds();
        Due.wood(x, "rope 1");
        Due.wood(x, "rope 2");
        x.book(1);
        x.book(1);
        x.book(1);
        for (int i = 0; i < 5; i++) {
            x.feed('a');
        }
        x.act(4, 2, 0);
        x.fell(0);
        x.fell(1);
        int[] due = {6, 2, 3, 5, 7, 4};
        for (int what = 0; what < 6; what++) {
            Due.is("30: count(" + what + ")", x.count(what), due[what]);
        }
        Due.is("30: what", x.count(6), FellTree.NONE);
        Due.is("30: what", x.count(-1), FellTree.NONE);
    }
}
