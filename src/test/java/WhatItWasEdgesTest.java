/** Promises 20 to 24 and what 'Terms' says of FAULT, KNOCK, LIMBS and the BOOK: at their bounds. */
public final class WhatItWasEdgesTest {
    private static final int NONE = FellTree.NONE, STATE = FellTree.STATE, FULL = FellTree.FULL;

    public static void main(String[] args) {
        blameByEachHow();
        blameByOdds();
        blameWraps();
        blameRefused();
        knockAtBothEnds();
        knockOfAllOrNone();
        knockRefused();
        limbsByEachLean();
        limbsNever();
        limbsRefused();
        bookNoneToSix();
        bookRefused();
        judgedOfNothing();
        judgedOfMoreTreesOrWays();
        judgedOfSix();
        judgedOfThoseStanding();
        judgedRefused();
        Due.end();
    }

    private static FellTree one() {
        FellTree x = new FellTree();
        x.tree(0, 0, 27, 3);
        return x;
    }

    private static void blames(String how, FellTree x, int... due) {
        for (int way = 0; way < 8; way++) {
            Due.is("20: " + how + ", blame(0, " + way + ")", x.blame(0, way), due[way]);
        }
    }

    private static void blameByEachHow() {
        FellTree x = one();
        x.plan(0, 0, 3);
        blames("TRUE", x, 0, 0, 0, 1, 0, 0, 0, 0);
        x.plan(0, 2, 1);
        blames("SWUNG behind", x, 0, 0, 0, 0, 2, 0, 0, 0);
        x.plan(0, 2, 0);
        x.plan(0, 1, 1);
        blames("SWUNG ahead", x, 0, 0, 2, 0, 0, 0, 0, 0);
        x.plan(0, 1, 0);
        x.lean(0, 5, 1, 0);
        blames("TORN OFF behind", x, 0, 0, 0, 0, 0, 8, 0, 0);
        x.lean(0, 1, 1, 0);
        blames("TORN OFF ahead", x, 0, 8, 0, 0, 0, 0, 0, 0);
        x.lean(0, 7, 1, 0);
        blames("SITS BACK", x, 0, 0, 0, 0, 0, 0, 0, 0);
        x.lean(0, 3, 1, 0);
        Due.wood(x, "split 39 t=0");
        blames("SPLITS", x, 0, 0, 0, 16, 0, 0, 0, 0);
    }

    /** Without wind TRUE; by the GUST of WAY 0 it SPLITS, by 2 and 6 it is TORN OFF, by 4 it SITS BACK. */
    private static void blameByOdds() {
        FellTree x = one();
        Due.wood(x, "wind 50 w=0|w=2|w=4|w=6");
        blames("odds 0", x, 1, 0, 0, 0, 0, 0, 0, 0);
        for (int odds = 1; odds <= 9; odds += 4) {
            x.gusts(odds);
            blames("odds " + odds, x, 17, 0, 8, 0, 0, 0, 8, 0);
        }
        x.gusts(10);
        blames("odds 10, GUSTS without WIND", x, 17, 0, 8, 0, 0, 0, 8, 0);
        Due.wood(x, "wind 50 w<8");
        blames("odds 10", x, 16, 0, 8, 0, 0, 0, 8, 0);
        x.gusts(9);
        blames("odds 9", x, 17, 0, 8, 0, 0, 0, 8, 0);
        x.gusts(0);
        blames("odds 0", x, 1, 0, 0, 0, 0, 0, 0, 0);
    }

    private static void blameWraps() {
        FellTree x = one();
        Due.plan(x, 0, 7, 0, 1);
        blames("SWUNG behind 7", x, 2, 0, 0, 0, 0, 0, 0, 0);
        Due.plan(x, 0, 0, 1, 0);
        blames("SWUNG ahead of 0", x, 0, 0, 0, 0, 0, 0, 0, 2);
    }

    private static void blameRefused() {
        FellTree x = one();
        for (int way : Outside.of(0, 7)) {
            Due.is("20: way " + way, x.blame(0, way), NONE);
        }
        for (int tree : Outside.ofTrees(1)) {
            Due.is("20: tree " + tree, x.blame(tree, 0), NONE);
        }
        x.fell(0);
        for (int way : Outside.of(0, 7)) {
            Due.is("20: way and STATE", x.blame(0, way), NONE);
        }
        Due.is("20: STATE", x.blame(0, 0), STATE);
        Due.is("20: STATE", x.blame(0, 7), STATE);
    }

    private static void knocks(String what, FellTree x, int... due) {
        for (int how = 0; how < 5; how++) {
            Due.is("21: " + what + ", knock(0, " + how + ")", x.knock(0, how), due[how]);
        }
    }

    /** HOLLOW 0 and 9 are the bits 0 and 9. */
    private static void knockAtBothEnds() {
        FellTree x = one();
        x.plan(0, 3, 1);
        Due.wood(x, "split 40 o=9");
        knocks("SPLITS with 9", x, 511, 0, 0, 0, 512);
        Due.wood(x, "split 40 o=0");
        knocks("SPLITS with 0", x, 1022, 0, 0, 0, 1);
        Due.wood(x, "split 40 o>9");
        knocks("SPLITS with none", x, 1023, 0, 0, 0, 0);
        x.lean(0, 0, 0, 9);
        Due.wood(x, "split 40 o<9");
        knocks("whatever it is now", x, 512, 0, 0, 0, 511);
        Due.is("8: HOLLOW is as it was", x.of(0, 6), 9);
    }

    private static void knockOfAllOrNone() {
        FellTree x = one();
        knocks("TRUE", x, 1023, 0, 0, 0, 0);
        x.plan(0, 2, 1);
        knocks("SWUNG", x, 0, 1023, 0, 0, 0);
        x.lean(0, 3, 1, 0);
        knocks("SITS BACK", x, 0, 0, 1023, 0, 0);
        x.lean(0, 2, 1, 0);
        knocks("TORN OFF", x, 0, 0, 0, 1023, 0);
        Due.wood(x, "wedge 99");
        x.plan(0, 3, 1);
        knocks("SPLITS", x, 0, 0, 0, 0, 1023);
        x.gusts(10);
        Due.wood(x, "wind 99 w<8");
        x.plan(0, 3, 0);
        knocks("without wind", x, 0, 0, 0, 1023, 0);
    }

    private static void knockRefused() {
        FellTree x = one();
        for (int how : Outside.of(0, 4)) {
            Due.is("21: how " + how, x.knock(0, how), NONE);
        }
        for (int tree : Outside.ofTrees(1)) {
            Due.is("21: tree " + tree, x.knock(tree, 0), NONE);
        }
        x.fell(0);
        for (int how : Outside.of(0, 4)) {
            Due.is("21: how and STATE", x.knock(0, how), NONE);
        }
        Due.is("21: STATE", x.knock(0, 0), STATE);
        Due.is("21: STATE", x.knock(0, 4), STATE);
    }

    /** It goes TRUE with a LEAN of so much or less. */
    private static void limbsByEachLean() {
        for (int good = 0; good <= 9; good++) {
            FellTree x = one();
            x.plan(0, 3, 1);
            Due.wood(x, "split 40 l>" + good);
            for (int lean = 0; lean <= 9; lean++) {
                x.lean(0, 0, lean, 0);
                Due.is("22: limbs, LEAN " + lean + ", good " + good, x.limbs(0), Math.max(0, lean - good));
                Due.is("8: LEAN is as it was", x.of(0, 4), lean);
            }
        }
    }

    private static void limbsNever() {
        FellTree x = one();
        x.plan(0, 3, 1);
        Due.wood(x, "split 40 l<9");
        x.lean(0, 0, 9, 0);
        Due.is("22: as it is, and no other", x.limbs(0), 0);
        x.lean(0, 0, 8, 0);
        Due.is("22: more is not less", x.limbs(0), -5);
        x.lean(0, 0, 0, 0);
        Due.is("22: LEAN 0, never", x.limbs(0), -5);
        Due.wood(x, "split 40 l>0");
        Due.is("22: LEAN 0, none", x.limbs(0), 0);
        x.lean(0, 0, 9, 0);
        Due.is("22: LEAN 0 alone", x.limbs(0), 9);
        Due.wood(x, "split 40 !l=4");
        Due.is("22: LEAN 4 alone", x.limbs(0), 5);
        x.lean(0, 0, 3, 0);
        Due.is("22: LEAN 4 is more", x.limbs(0), -5);
    }

    private static void limbsRefused() {
        FellTree x = one();
        for (int tree : Outside.ofTrees(1)) {
            Due.is("22: tree " + tree, x.limbs(tree), NONE);
        }
        Due.is("22: none", x.limbs(0), 0);
        x.fell(0);
        Due.is("22: STATE", x.limbs(0), STATE);
    }

    private static void bookNoneToSix() {
        FellTree x = new FellTree();
        Due.is("23: empty it is", x.book(-1), 0);
        Due.is("23: count(2)", x.count(2), 0);
        int[] ways = {0, 7, 0, 7, 3, 4};
        for (int round = 0; round < 2; round++) {
            for (int k = 0; k < 6; k++) {
                Due.is("23: book(" + ways[k] + ")", x.book(ways[k]), k + 1);
                Due.is("23: count(2)", x.count(2), k + 1);
            }
            for (int way = 0; way < 8; way++) {
                Due.is("23: a seventh", x.book(way), FULL);
            }
            Due.is("23: six still", x.count(2), 6);
            Due.is("23: it is empty then", x.book(-1), 0);
            Due.is("23: count(2)", x.count(2), 0);
        }
        x.book(5);
        Due.is("23: empty with one", x.book(-1), 0);
    }

    private static void bookRefused() {
        FellTree x = new FellTree();
        for (int way : Outside.of(-1, 7)) {
            Due.is("23: book(" + way + ")", x.book(way), NONE);
            Due.is("23: count(2)", x.count(2), 0);
        }
        for (int k = 0; k < 6; k++) {
            x.book(k);
        }
        for (int way : Outside.of(-1, 7)) {
            Due.is("23: NONE ahead of FULL", x.book(way), NONE);
        }
        Due.is("23: six still", x.count(2), 6);
    }

    private static void judged(String what, FellTree x, int right, int worst) {
        Due.is("24: " + what + ", RIGHT", x.judged(0), right);
        Due.is("24: " + what + ", WORST", x.judged(1), worst);
    }

    private static void judgedOfNothing() {
        FellTree x = new FellTree();
        judged("nothing", x, 0, -5);
        x.book(0);
        judged("a WAY, no TREE", x, 0, -5);
        FellTree y = one();
        judged("a TREE, no WAY", y, 0, -5);
        y.book(1);
        judged("another WAY", y, 0, 0);
        y.book(-1);
        y.book(0);
        judged("the WAY", y, 1, -5);
        y.book(-1);
        judged("no WAY any more", y, 0, -5);
    }

    private static void judgedOfMoreTreesOrWays() {
        FellTree x = one();
        x.book(0);
        x.book(1);
        x.book(1);
        judged("one TREE, three WAYS", x, 1, -5);
        x.tree(0, 0, 28, 1);
        judged("two TREES", x, 1, 1);
        x.plan(1, 0, 1);
        judged("two TREES", x, 2, -5);
        for (int tree = 2; tree < 6; tree++) {
            x.tree(0, 0, 30 + tree, 1);
        }
        judged("six TREES, three WAYS", x, 2, 2);
        x.plan(2, 0, 1);
        judged("six TREES, three WAYS", x, 3, -5);
    }

    private static void judgedOfSix() {
        FellTree x = new FellTree();
        for (int tree = 0; tree < 6; tree++) {
            x.tree(0, 0, 20 + tree, 1);
            x.plan(tree, 0, 7 - tree);
            x.book(7 - tree);
        }
        judged("all six", x, 6, -5);
        x.plan(5, 0, 7);
        judged("all but the last", x, 5, 5);
        x.plan(0, 0, 0);
        judged("all but two", x, 4, 0);
        for (int tree = 1; tree < 5; tree++) {
            x.plan(tree, 0, 0);
        }
        judged("none", x, 0, 0);
    }

    private static void judgedOfThoseStanding() {
        FellTree x = new FellTree();
        for (int tree = 0; tree < 3; tree++) {
            x.tree(0, 0, 20 + tree, 1);
            x.book(tree);
        }
        judged("one is RIGHT", x, 1, 1);
        x.fell(1);
        judged("the one that has gone is not asked for", x, 1, 2);
        x.fell(0);
        judged("nor the one that was RIGHT", x, 0, 2);
        x.plan(2, 0, 2);
        judged("the k-th is for TREE k still", x, 1, -5);
        x.lean(2, 6, 1, 0);
        judged("one that SITS BACK goes no WAY", x, 0, 2);
        x.lean(2, 2, 0, 0);
        x.fell(2);
        judged("all have gone", x, 0, -5);
    }

    private static void judgedRefused() {
        FellTree x = one();
        for (int what : Outside.of(0, 1)) {
            Due.is("24: what " + what, x.judged(what), NONE);
        }
    }
}
