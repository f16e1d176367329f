/** Promises 20 to 24: blame, knock, limbs, book, judged. */
public final class WhatItWasTest {
    public static void main(String[] args) {
        blame();
        knock();
        knockByWood();
        limbs();
        limbsByWood();
        book();
        judged();
        Due.end();
    }

    private static void blame() {
        FellTree x = new FellTree();
        x.tree(0, 0, 27, 2);
        Due.wood(x, "wind 50 w<8");
        int[][] due = {{0, 0, 1}, {0, 2, 0}, {0, 6, 0}, {1, 0, 17}, {1, 2, 8}, {1, 6, 8}, {1, 4, 0}, {9, 0, 17},
            {10, 0, 16}, {10, 1, 0}, {10, 2, 8}, {10, 3, 0}, {10, 6, 8}};
        for (int[] row : due) {
            x.gusts(row[0]);
            Due.is("20: blame(0, " + row[1] + ") with " + row[0], x.blame(0, row[1]), row[2]);
        }
        x.lean(0, 4, 1, 0);
        x.gusts(0);
        for (int way = 0; way < 8; way++) {
            Due.is("20: it SITS BACK", x.blame(0, way), 0);
        }
        x.lean(0, 4, 0, 0);
        x.plan(0, 2, 1);
        Due.is("20: SWUNG", x.blame(0, 1), 2);
        Due.is("20: way", x.blame(0, 8), FellTree.NONE);
        Due.is("20: way", x.blame(0, -1), FellTree.NONE);
        Due.is("20: tree", x.blame(1, 0), FellTree.NONE);
        Due.is("20: tree", x.blame(-1, 0), FellTree.NONE);
        x.fell(0);
        Due.is("20: not STANDING", x.blame(0, 0), FellTree.STATE);
        Due.is("20: way ahead of STATE", x.blame(0, 8), FellTree.NONE);
    }

    /** STRIP 5 5, ASIDE 3: STRENGTH is 10 less HOLLOW. */
    private static FellTree hollow() {
        FellTree x = new FellTree();
        x.tree(0, 0, 27, 2);
        x.lean(0, 2, 3, 6);
        Due.plan(x, 0, 0, 5, 5);
        return x;
    }

    private static void knock(FellTree x, int... due) {
        for (int how = 0; how < 5; how++) {
            Due.is("21: knock(0, " + how + ")", x.knock(0, how), due[how]);
        }
    }

    private static void knock() {
        FellTree x = hollow();
        knock(x, 31, 224, 0, 768, 0);
        x.gusts(10);
        Due.is("21: HOLLOW is as it was", x.of(0, 6), 6);
        Due.is("21: how", x.knock(0, 5), FellTree.NONE);
        Due.is("21: how", x.knock(0, -1), FellTree.NONE);
        Due.is("21: tree", x.knock(1, 0), FellTree.NONE);
        Due.is("21: tree", x.knock(-1, 0), FellTree.NONE);
        x.lean(0, 4, 1, 0);
        knock(x, 0, 0, 1023, 0, 0);
        x.lean(0, 0, 1, 0);
        x.fell(0);
        Due.is("21: not STANDING", x.knock(0, 0), FellTree.STATE);
        Due.is("21: how ahead of STATE", x.knock(0, 5), FellTree.NONE);
    }

    private static void knockByWood() {
        FellTree x = hollow();
        Due.wood(x, "hold 9 o=9;wind 99 w<8");
        knock(x, 31 + 512, 224, 0, 256, 0);
        x.lean(0, 1, 3, 0);
        Due.wood(x, "split 40 o>3&o<6");
        knock(x, 15, 192, 0, 768, 48);
    }

    private static void limbs() {
        FellTree x = new FellTree();
        x.tree(0, 0, 27, 2);
        x.tree(3, 9, 0, 2);
        Due.plan(x, 0, 0, 5, 5);
        Due.is("22: it goes TRUE", x.limbs(0), 0);
        x.lean(0, 2, 5, 0);
        Due.is("22: it goes TRUE still", x.limbs(0), 0);
        x.lean(0, 2, 9, 0);
        Due.is("22: SWUNG", x.limbs(0), 4);
        x.lean(0, 6, 9, 9);
        Due.is("22: all of it", x.limbs(0), 9);
        Due.is("22: LEAN is as it was", x.of(0, 4), 9);
        Due.plan(x, 0, 0, 0, 0, 1);
        x.lean(0, 4, 5, 0);
        Due.is("22: SITS BACK", x.limbs(0), 4);
        Due.plan(x, 0, 0, 0, 1, 9);
        Due.is("22: never", x.limbs(0), -5);
        x.lean(1, 0, 4, 0);
        Due.is("22: never, it SITS BACK", x.limbs(1), -5);
        x.lean(1, 0, 5, 0);
        Due.is("22: none", x.limbs(1), 0);
        Due.is("22: tree", x.limbs(2), FellTree.NONE);
        Due.is("22: tree", x.limbs(-1), FellTree.NONE);
        x.fell(1);
        Due.is("22: not STANDING", x.limbs(1), FellTree.STATE);
    }

    private static void limbsByWood() {
        FellTree x = new FellTree();
        x.tree(0, 0, 27, 2);
        x.lean(0, 0, 7, 0);
        Due.wood(x, "split 40 l>3;wind 99 w<8");
        x.gusts(10);
        Due.is("22: it SPLITS till LEAN is 3", x.limbs(0), 4);
        Due.wood(x, "split 40 l>0");
        Due.is("22: it SPLITS till LEAN is 0", x.limbs(0), 7);
        Due.wood(x, "split 40 l>0;rope 1");
        x.plan(0, 5, 1);
        Due.is("22: the least that will do", x.limbs(0), 7);
        Due.wood(x, "split 40 l<9");
        Due.is("22: never", x.limbs(0), -5);
    }

    private static void book() {
        FellTree x = new FellTree();
        Due.is("23: book(-1)", x.book(-1), 0);
        for (int i = 1; i <= 6; i++) {
            Due.is("23: book", x.book(i == 6 ? 7 : 0), i);
        }
        Due.is("23: FULL", x.book(0), FellTree.FULL);
        Due.is("23: NONE ahead of FULL", x.book(8), FellTree.NONE);
        Due.is("23: NONE", x.book(-2), FellTree.NONE);
        Due.is("23: count(2)", x.count(2), 6);
        Due.is("23: book(-1)", x.book(-1), 0);
        Due.is("23: count(2)", x.count(2), 0);
        Due.is("23: book", x.book(3), 1);
    }

    private static void judged(FellTree x, int right, int worst) {
        Due.is("24: judged(0)", x.judged(0), right);
        Due.is("24: judged(1)", x.judged(1), worst);
    }

    private static void judged() {
        FellTree x = new FellTree();
        x.book(0);
        judged(x, 0, -5);
        x.tree(0, 0, 27, 2);
        x.tree(0, 0, 19, 2);
        judged(x, 1, -5);
        x.book(1);
        judged(x, 1, 1);
        x.plan(1, 2, 1);
        judged(x, 2, -5);
        x.tree(0, 0, 63, 2);
        judged(x, 2, -5);
        x.lean(2, 4, 1, 0);
        x.book(4);
        judged(x, 2, 2);
        x.plan(0, 0, 5);
        judged(x, 1, 0);
        Due.is("12: fell", x.fell(0), 0);
        judged(x, 1, 2);
        x.gusts(10);
        Due.wood(x, "wind 99 w<8");
        judged(x, 1, 2);
        x.book(-1);
        judged(x, 0, -5);
        Due.is("24: what", x.judged(2), FellTree.NONE);
        Due.is("24: what", x.judged(-1), FellTree.NONE);
    }
}
