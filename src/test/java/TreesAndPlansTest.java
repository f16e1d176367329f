/** Promises 6 to 12: tree, lean, of, plan, goes, lies, fell. */
public final class TreesAndPlansTest {
    private static final int[] ALONG = {2, 1, 0, -1, -2, -1, 0, 1};
    private static final int[] SIDE = {0, 1, 1, 1, 0, -1, -1, -1};

    public static void main(String[] args) {
        tree();
        treeRefused();
        lean();
        of();
        plan();
        forwardAndAsideOfLean();
        forwardAndAsideOfRope();
        strength();
        byKind();
        how();
        ways();
        places();
        edges();
        hangs();
        goesRefused();
        lies();
        fell();
        Due.end();
    }

    private static FellTree one(int kind, int v, int place, int height) {
        FellTree x = new FellTree();
        Due.is("6: tree", x.tree(kind, v, place, height), 0);
        return x;
    }

    private static void tree() {
        FellTree x = new FellTree();
        Due.is("6: tree", x.tree(0, 0, 0, 1), 0);
        Due.is("6: tree", x.tree(6, 9, 63, 7), 1);
        Due.is("6: tree", x.tree(3, 5, 20, 4), 2);
        Due.is("6: tree", x.tree(3, 5, 21, 4), 3);
        Due.is("6: tree", x.tree(3, 5, 22, 4), 4);
        Due.is("6: tree", x.tree(3, 5, 23, 4), 5);
        Due.is("6: FULL", x.tree(3, 5, 24, 4), FellTree.FULL);
        Due.is("6: STATE ahead of FULL", x.tree(3, 5, 23, 4), FellTree.STATE);
        Due.is("6: BAD ahead of STATE", x.tree(3, 10, 23, 4), FellTree.BAD);
        Due.is("6: NONE ahead of BAD", x.tree(7, 10, 23, 4), FellTree.NONE);
        Due.is("6: count(0)", x.count(0), 6);
        Due.is("6: count(5)", x.count(5), 6);
    }

    private static void treeRefused() {
        FellTree x = new FellTree();
        Due.is("6: kind", x.tree(-1, 0, 0, 1), FellTree.NONE);
        Due.is("6: kind", x.tree(7, 0, 0, 1), FellTree.NONE);
        Due.is("6: place", x.tree(0, 0, -1, 1), FellTree.NONE);
        Due.is("6: place", x.tree(0, 0, 64, 1), FellTree.NONE);
        Due.is("6: v", x.tree(0, -1, 0, 1), FellTree.BAD);
        Due.is("6: v", x.tree(0, 10, 0, 1), FellTree.BAD);
        Due.is("6: height", x.tree(0, 0, 0, 0), FellTree.BAD);
        Due.is("6: height", x.tree(0, 0, 0, 8), FellTree.BAD);
        Due.is("6: place ahead of v", x.tree(0, 10, 64, 0), FellTree.NONE);
        Due.is("6: count(0)", x.count(0), 0);
        x.tree(0, 0, 9, 1);
        Due.is("6: another has it", x.tree(0, 0, 9, 1), FellTree.STATE);
        Due.is("12: fell", x.fell(0), 0);
        Due.is("6: one that has gone keeps its PLACE", x.tree(0, 0, 9, 1), FellTree.STATE);
        Due.is("6: count(0)", x.count(0), 1);
    }

    private static void lean() {
        FellTree x = one(0, 0, 27, 1);
        Due.is("7: lean", x.lean(0, 7, 9, 8), 0);
        Due.is("7: lean", x.lean(0, 0, 3, 9), 9);
        Due.is("7: lean", x.lean(0, 1, 0, 0), 3);
        Due.is("7: lean", x.lean(0, 5, 4, 6), 0);
        Due.is("7: tree", x.lean(1, 0, 0, 0), FellTree.NONE);
        Due.is("7: tree", x.lean(-1, 0, 0, 0), FellTree.NONE);
        Due.is("7: way", x.lean(0, 8, 0, 0), FellTree.NONE);
        Due.is("7: way", x.lean(0, -1, 0, 0), FellTree.NONE);
        Due.is("7: way ahead of lean", x.lean(0, 8, 10, 0), FellTree.NONE);
        Due.is("7: lean", x.lean(0, 0, 10, 0), FellTree.BAD);
        Due.is("7: lean", x.lean(0, 0, -1, 0), FellTree.BAD);
        Due.is("7: hollow", x.lean(0, 0, 0, 10), FellTree.BAD);
        Due.is("7: hollow", x.lean(0, 0, 0, -1), FellTree.BAD);
        Due.is("7: nothing has changed", x.of(0, 4), 4);
        Due.is("7: nothing has changed", x.of(0, 5), 5);
        Due.is("7: nothing has changed", x.of(0, 6), 6);
        x.plan(0, 0, 5);
        Due.is("12: fell", x.fell(0), 0);
        Due.is("7: one that has gone too", x.lean(0, 2, 1, 1), 4);
        Due.is("7: one that has gone too", x.of(0, 5), 2);
    }

    private static void of() {
        FellTree x = new FellTree();
        x.tree(0, 0, 1, 1);
        x.tree(5, 8, 42, 6);
        int[] atFirst = {5, 8, 42, 6, 0, 0, 0, 1};
        for (int what = 0; what < 8; what++) {
            Due.is("8: of(1, " + what + ")", x.of(1, what), atFirst[what]);
        }
        x.lean(1, 3, 7, 2);
        int[] then = {5, 8, 42, 6, 7, 3, 2, 1};
        for (int what = 0; what < 8; what++) {
            Due.is("8: of(1, " + what + ")", x.of(1, what), then[what]);
        }
        Due.is("8: what", x.of(1, 8), FellTree.NONE);
        Due.is("8: what", x.of(1, -1), FellTree.NONE);
        Due.is("8: tree", x.of(2, 0), FellTree.NONE);
        Due.is("8: tree", x.of(-1, 0), FellTree.NONE);
        x.fell(0);
        Due.is("8: not STANDING", x.of(0, 7), 0);
        Due.is("8: its PLACE", x.of(0, 2), 1);
    }

    private static void plan() {
        FellTree x = one(0, 0, 27, 1);
        int[] most = {7, 9, 9, 9, 7, 9};
        for (int part = 0; part < 6; part++) {
            Due.is("9: at first", x.plan(0, part, most[part]), 0);
            Due.is("9: what it was", x.plan(0, part, 1), most[part]);
            Due.is("9: too much", x.plan(0, part, most[part] + 1), FellTree.BAD);
            Due.is("9: too little", x.plan(0, part, -1), FellTree.BAD);
            Due.is("9: what it was", x.plan(0, part, 0), 1);
        }
        Due.is("9: part", x.plan(0, 6, 0), FellTree.NONE);
        Due.is("9: part", x.plan(0, -1, 0), FellTree.NONE);
        Due.is("9: part ahead of n", x.plan(0, 6, 10), FellTree.NONE);
        Due.is("9: tree", x.plan(1, 0, 0), FellTree.NONE);
        Due.is("9: tree", x.plan(-1, 0, 99), FellTree.NONE);
        x.fell(0);
        Due.is("9: one that has gone too", x.plan(0, 3, 4), 0);
        Due.is("9: one that has gone too", x.plan(0, 3, 4), 4);
    }

    private static void forwardAndAsideOfLean() {
        FellTree x = one(0, 0, 27, 1);
        for (int notch = 0; notch < 8; notch++) {
            for (int way = 0; way < 8; way++) {
                x.plan(0, 0, notch);
                x.lean(0, way, 7, 0);
                int behind = (way - notch + 8) % 8;
                Due.is("10: FORWARD " + notch + " " + way, x.goes(0, 0), 7 * ALONG[behind]);
                Due.is("10: ASIDE " + notch + " " + way, x.goes(0, 1), 7 * SIDE[behind]);
            }
        }
    }

    private static void forwardAndAsideOfRope() {
        for (int notch = 0; notch < 8; notch++) {
            FellTree x = one(0, 0, 27, 1);
            Due.wood(x, "rope 5;wedge 4");
            for (int way = 0; way < 8; way++) {
                Due.plan(x, 0, notch, 2, 9, 3, way, 6);
                int behind = (way - notch + 8) % 8;
                Due.is("10: FORWARD " + notch + " " + way, x.goes(0, 0), 30 * ALONG[behind] + 12);
                Due.is("10: ASIDE " + notch + " " + way, x.goes(0, 1), 30 * SIDE[behind] + 7);
            }
        }
    }

    private static void strength() {
        FellTree x = one(0, 0, 27, 1);
        Due.plan(x, 0, 0, 3, 4);
        Due.is("10: STRENGTH", x.goes(0, 2), 7);
        x.lean(0, 0, 0, 1);
        Due.is("10: 7 by 10 is cut to 0", x.goes(0, 2), 7);
        x.lean(0, 0, 0, 3);
        Due.is("10: 21 by 10 is cut to 2", x.goes(0, 2), 5);
        Due.plan(x, 0, 0, 9, 9);
        x.lean(0, 0, 0, 9);
        Due.is("10: 162 by 10 is cut to 16", x.goes(0, 2), 2);
        Due.wood(x, "hold 4 o=9");
        Due.is("10: STRENGTH with HOLD 5", x.goes(0, 2), 74);
    }

    private static void byKind() {
        for (int kind = 0; kind <= 6; kind++) {
            FellTree x = one(kind, 4, 27, 1);
            x.lean(0, 1, 5, 0);
            Due.plan(x, 0, 0, 2, 3, 1);
            boolean swings = kind == 2 || kind == 5, sits = kind == 3 || kind == 6;
            Due.is("10: FORWARD of " + kind, x.goes(0, 0), sits ? 4 : 8);
            Due.is("10: ASIDE of " + kind, x.goes(0, 1), swings ? 10 : 6);
            Due.is("10: STRENGTH of " + kind, x.goes(0, 2), kind == 5 ? 1 : 5);
            Due.is("10: SPLITS AT of " + kind, x.goes(0, 3), kind == 6 ? 36 : 40);
            for (int aside = -9; aside <= 9; aside++) {
                Due.plan(x, 0, 0, Math.max(0, -aside), Math.max(0, aside));
                x.lean(0, 0, 0, 0);
                boolean straight = (kind == 1 || kind == 4) && aside >= -4 && aside <= 4;
                Due.is("10: ASIDE of " + kind, x.goes(0, 1), straight ? 0 : swings ? aside + 4 : aside);
            }
        }
        FellTree torn = one(5, 9, 27, 1);
        Due.plan(torn, 0, 0, 4, 4);
        Due.is("10: STRENGTH of TORN, 0 at least", torn.goes(0, 2), 0);
        FellTree split = one(6, 9, 27, 1);
        Due.wood(split, "split 35 t=0");
        Due.is("10: SPLITS AT of SPLIT, 0 at least", split.goes(0, 3), 0);
        Due.is("10: FORWARD of SPLIT", split.goes(0, 0), -9);
    }

    private static void how(FellTree x, int left, int right, int how) {
        x.plan(0, 1, left);
        x.plan(0, 2, right);
        Due.is("10: HOW by " + left + " " + right, x.goes(0, 4), how);
    }

    private static void how() {
        FellTree x = one(0, 0, 27, 3);
        how(x, 0, 0, 0);
        how(x, 1, 3, 0);
        how(x, 3, 1, 0);
        how(x, 1, 4, 1);
        how(x, 4, 1, 1);
        how(x, 0, 3, 1);
        x.lean(0, 2, 1, 0);
        Due.is("10: FORWARD 0 is enough", x.goes(0, 0), 0);
        how(x, 0, 3, 3);
        how(x, 0, 0, 3);
        how(x, 1, 0, 0);
        how(x, 3, 0, 1);
        x.lean(0, 3, 1, 0);
        how(x, 9, 9, 2);
        how(x, 0, 0, 2);
        x.lean(0, 0, 2, 0);
        Due.plan(x, 0, 0, 0, 0, 0, 0, 9);
        Due.is("10: FORWARD", x.goes(0, 0), 40);
        how(x, 0, 0, 0);
        x.lean(0, 0, 3, 0);
        how(x, 0, 0, 4);
        how(x, 0, 9, 4);
        Due.wood(x, "split 99 t=0");
        x.lean(0, 4, 1, 0);
        x.plan(0, 5, 0);
        Due.is("10: SITS BACK ahead of SPLITS", x.goes(0, 4), 2);
    }

    /** The WAY for TRUE, SWUNG and TORN OFF to both sides, for each notch. */
    private static void ways() {
        FellTree x = one(0, 0, 27, 3);
        for (int notch = 0; notch < 8; notch++) {
            Due.plan(x, 0, notch, 0, 0);
            x.lean(0, notch, 0, 0);
            Due.is("10: TRUE", x.goes(0, 5), notch);
            x.plan(0, 2, 1);
            Due.is("10: SWUNG", x.goes(0, 5), (notch + 1) % 8);
            Due.plan(x, 0, notch, 1, 0);
            Due.is("10: SWUNG", x.goes(0, 5), (notch + 7) % 8);
            Due.plan(x, 0, notch, 0, 0);
            x.lean(0, (notch + 1) % 8, 3, 0);
            Due.is("10: TORN OFF", x.goes(0, 5), (notch + 2) % 8);
            x.lean(0, (notch + 7) % 8, 3, 0);
            Due.is("10: TORN OFF", x.goes(0, 5), (notch + 6) % 8);
            x.lean(0, (notch + 4) % 8, 3, 0);
            Due.is("10: SITS BACK", x.goes(0, 5), -5);
            Due.is("10: SITS BACK", x.goes(0, 6), 0);
            Due.is("10: SITS BACK", x.goes(0, 7), -5);
        }
        Due.wood(x, "split 99 t=0");
        x.lean(0, 1, 3, 0);
        Due.plan(x, 0, 0, 0, 9);
        Due.is("10: SPLITS", x.goes(0, 4), 4);
        Due.is("10: SPLITS the notch's WAY", x.goes(0, 5), 0);
    }

    private static void places() {
        FellTree x = one(0, 0, 27, 3);
        long[] lies = {Due.places(19, 11, 3), Due.places(20, 13, 6), Due.places(28, 29, 30), Due.places(36, 45, 54),
            Due.places(35, 43, 51), Due.places(34, 41, 48), Due.places(26, 25, 24), Due.places(18, 9, 0)};
        for (int notch = 0; notch < 8; notch++) {
            x.plan(0, 0, notch);
            Due.is("11: lies " + notch, x.lies(0), lies[notch]);
            Due.is("10: PLACES " + notch, x.goes(0, 6), 3);
        }
        Due.wood(x, "split 40 t=0");
        Due.plan(x, 0, 2, 0, 0, 1);
        Due.is("11: SPLITS, one fewer", x.lies(0), Due.places(28, 29));
        Due.is("10: SPLITS, one fewer", x.goes(0, 6), 2);
        FellTree low = one(0, 0, 27, 1);
        Due.is("11: HEIGHT 1", low.lies(0), Due.places(19));
        Due.wood(low, "split 40 t=0");
        low.plan(0, 3, 1);
        Due.is("11: SPLITS with HEIGHT 1", low.lies(0), 0);
        Due.is("10: SPLITS with HEIGHT 1", low.goes(0, 6), 0);
        Due.is("10: SPLITS with HEIGHT 1", low.goes(0, 5), 0);
    }

    private static void edges() {
        int[][] off = {{0, 0}, {0, 7}, {0, 1}, {0, 6}, {0, 5}, {7, 0}, {7, 1}, {7, 2}, {7, 3}, {7, 7}, {56, 4}, {56, 5},
            {56, 6}, {56, 3}, {56, 7}, {63, 2}, {63, 3}, {63, 4}, {63, 1}, {63, 5}, {31, 2}, {31, 1}, {31, 3}, {32, 6},
            {32, 5}, {32, 7}};
        for (int[] of : off) {
            FellTree x = one(0, 0, of[0], 7);
            x.plan(0, 0, of[1]);
            Due.is("11: off at once, " + of[0] + " " + of[1], x.lies(0), 0);
            Due.is("10: off at once, " + of[0] + " " + of[1], x.goes(0, 5), of[1]);
        }
        FellTree x = one(0, 0, 56, 7);
        x.plan(0, 0, 1);
        Due.is("11: corner to corner", x.lies(0), Due.places(49, 42, 35, 28, 21, 14, 7));
        FellTree y = one(0, 0, 60, 7);
        y.plan(0, 0, 2);
        Due.is("11: as far as the field goes", y.lies(0), Due.places(61, 62, 63));
        y.plan(0, 0, 0);
        Due.is("11: to the top", y.lies(0), Due.places(52, 44, 36, 28, 20, 12, 4));
    }

    private static void hangs() {
        FellTree x = one(0, 0, 27, 4);
        x.tree(0, 0, 31, 1);
        x.tree(0, 0, 30, 1);
        x.plan(0, 0, 2);
        Due.is("10: HANGS on the first on its way", x.goes(0, 7), 2);
        Due.is("10: PLACES ahead of that", x.goes(0, 6), 2);
        Due.is("11: PLACES ahead of that", x.lies(0), Due.places(28, 29));
        Due.is("10: HOW as if it were free", x.goes(0, 4), 0);
        Due.is("12: fell", x.fell(2), 0);
        Due.is("10: HANGS on the last it reaches", x.goes(0, 7), 1);
        Due.is("11: lies", x.lies(0), Due.places(28, 29, 30));
        Due.wood(x, "split 40 t=0");
        x.plan(0, 3, 1);
        Due.is("10: SPLITS and is too short", x.goes(0, 7), -5);
        Due.is("11: lies", x.lies(0), Due.places(28, 29, 30));
        x.tree(0, 0, 28, 1);
        Due.is("10: HANGS at once", x.goes(0, 7), 3);
        Due.is("11: lies", x.lies(0), 0);
        x.lean(0, 6, 9, 0);
        Due.is("10: SITS BACK", x.goes(0, 4), 2);
        Due.is("10: SITS BACK, on none", x.goes(0, 7), -5);
        FellTree zero = one(0, 0, 0, 7);
        zero.tree(0, 0, 16, 7);
        Due.is("10: HANGS on TREE 0", zero.goes(1, 7), 0);
        Due.is("11: lies", zero.lies(1), Due.places(8));
    }

    private static void goesRefused() {
        FellTree x = one(0, 0, 27, 4);
        Due.is("10: what", x.goes(0, 8), -10001);
        Due.is("10: what", x.goes(0, -1), -10001);
        Due.is("10: tree", x.goes(1, 0), -10001);
        Due.is("10: tree", x.goes(-1, 0), -10001);
        x.fell(0);
        for (int what = 0; what < 8; what++) {
            Due.is("10: not STANDING", x.goes(0, what), -10002);
        }
        Due.is("10: what ahead of STATE", x.goes(0, 8), -10001);
    }

    private static void lies() {
        FellTree x = one(0, 0, 27, 4);
        Due.is("11: tree", x.lies(1), FellTree.NO);
        Due.is("11: tree", x.lies(-1), FellTree.NO);
        x.lean(0, 4, 1, 0);
        Due.is("11: SITS BACK", x.lies(0), 0);
        x.lean(0, 0, 1, 0);
        x.fell(0);
        Due.is("11: not STANDING", x.lies(0), FellTree.NO);
        FellTree y = one(0, 0, 55, 4);
        y.plan(0, 0, 4);
        Due.is("11: PLACE 63", y.lies(0), Long.MIN_VALUE);
    }

    private static void fell() {
        FellTree x = new FellTree();
        for (int place = 0; place < 6; place++) {
            x.tree(0, 0, 8 + place, 3);
        }
        x.plan(1, 1, 1);
        x.lean(2, 4, 1, 0);
        x.lean(3, 2, 1, 0);
        Due.plan(x, 4, 0, 0, 0, 9, 0, 9);
        int[] hows = {0, 1, 2, 3, 4};
        for (int tree = 0; tree < 5; tree++) {
            Due.is("12: fell(" + tree + ")", x.fell(tree), hows[tree]);
            Due.is("12: STANDING " + tree, x.of(tree, 7), tree == 2 ? 1 : 0);
            Due.is("12: fell(" + tree + ") again", x.fell(tree), tree == 2 ? 2 : FellTree.STATE);
        }
        Due.is("12: count(5)", x.count(5), 2);
        Due.is("12: count(0)", x.count(0), 6);
        Due.is("12: tree", x.fell(6), FellTree.NONE);
        Due.is("12: tree", x.fell(-1), FellTree.NONE);
        x.gusts(10);
        Due.wood(x, "wind 99 w<8");
        Due.is("12: without wind", x.fell(5), 0);
    }
}
