/** Promises 13 to 19: wide, least, gusts, sure, stand, order, hung. */
public final class WideAndSureTest {
    public static void main(String[] args) {
        wide();
        wideOfKindsAndWoods();
        wideByStripOrWedges();
        least();
        leastNone();
        gusts();
        sure();
        harm();
        sureRefused();
        windIsAheadOfKind();
        stand();
        standRefused();
        order();
        orderMany();
        hung();
        Due.end();
    }

    private static FellTree leaning(int kind, int v) {
        FellTree x = new FellTree();
        x.tree(kind, v, 27, 2);
        x.lean(0, 0, 9, 0);
        return x;
    }

    private static void wide() {
        FellTree x = leaning(0, 0);
        int[] due = {199, 199, 199, 239, 239, 239, 255, 255, 255, 255};
        for (int n = 0; n < 10; n++) {
            Due.is("13: wide(0, " + n + ")", x.wide(0, n), due[n]);
        }
        Due.plan(x, 0, 4, 9, 9, 9, 4, 9);
        Due.is("13: its own PLAN is not asked", x.wide(0, 0), 199);
        x.gusts(10);
        Due.is("13: without wind", x.wide(0, 2), 199);
        Due.is("13: its PLAN is as it was", x.plan(0, 5, 9), 9);
        Due.is("13: its PLAN is as it was", x.plan(0, 3, 9), 9);
        Due.is("13: n", x.wide(0, 10), FellTree.BAD);
        Due.is("13: n", x.wide(0, -1), FellTree.BAD);
        Due.is("13: tree", x.wide(1, 0), FellTree.NONE);
        Due.is("13: tree ahead of n", x.wide(-1, 10), FellTree.NONE);
        x.plan(0, 0, 0);
        x.plan(0, 4, 0);
        Due.is("12: fell", x.fell(0), 4);
        Due.is("13: not STANDING", x.wide(0, 0), FellTree.STATE);
        Due.is("13: BAD ahead of STATE", x.wide(0, 10), FellTree.BAD);
    }

    private static void wideOfKindsAndWoods() {
        FellTree x = leaning(0, 0);
        Due.wood(x, "wedge 0");
        Due.is("13: wedge 0", x.wide(0, 9), 199);
        Due.wood(x, "split 40 w<8");
        Due.is("13: SPLITS, or FORWARD is 0", x.wide(0, 0), 199);
        FellTree level = new FellTree();
        level.tree(0, 0, 27, 2);
        Due.is("13: without LEAN", level.wide(0, 0), 255);
        FellTree sat = new FellTree();
        sat.tree(3, 9, 27, 2);
        Due.is("13: SAT by no WEDGES", sat.wide(0, 2), 0);
        Due.is("13: SAT by 3 WEDGES", sat.wide(0, 3), 255);
        sat.lean(0, 0, 9, 0);
        Due.is("13: SAT, notch 7, 0 and 1", sat.wide(0, 0), 128 + 1 + 2);
        Due.wood(sat, "split 40 w<8");
        Due.is("13: SAT SPLITS", sat.wide(0, 0), 128 + 1 + 2);
        Due.wood(sat, "hold 99 w<8");
        Due.is("13: HOLD by the notch", sat.wide(0, 0), 128 + 1 + 2);
    }

    private static void wideByStripOrWedges() {
        FellTree swung = leaning(2, 9);
        Due.is("13: notch 6 never goes TRUE", swung.wide(0, 0), 143);
        Due.wood(swung, "hold 1 w=7");
        Due.is("13: HOLD of notch 7", swung.wide(0, 0), 143);
        Due.wood(swung, "hold 1 w=6");
        Due.is("13: HOLD of notch 6", swung.wide(0, 0), 143 + 64);
        FellTree split = leaning(0, 0);
        Due.wood(split, "wedge 5;split 40 w=4");
        Due.is("13: notch 4 SITS BACK", split.wide(0, 3), 239);
        Due.is("13: notch 4 SPLITS", split.wide(0, 4), 255);
        FellTree sat = new FellTree();
        sat.tree(3, 8, 27, 2);
        sat.lean(0, 4, 4, 0);
        Due.is("13: by notch 4 alone", sat.wide(0, 0), 8 + 16 + 32);
        Due.wood(sat, "wedge 1;split 40 w=4");
        Due.is("13: it SPLITS by 1, is SWUNG by 0", sat.wide(0, 1), 8 + 16 + 32);
        FellTree hollow = leaning(0, 0);
        hollow.lean(0, 0, 9, 9);
        Due.wood(hollow, "split 40 w=0");
        Due.is("13: 2 by STRIP 0 9, 6 by STRIP 9 0 alone", hollow.wide(0, 0), 199);
        Due.is("14: STRIP 0 9", hollow.least(0, 2), 9);
        Due.is("14: STRIP 9 0", hollow.least(0, 6), 90);
    }

    private static void least() {
        FellTree x = leaning(0, 0);
        int[] due = {0, 6, 6, 306, 600, 360, 60, 60};
        for (int way = 0; way < 8; way++) {
            Due.is("14: least(0, " + way + ")", x.least(0, way), due[way]);
        }
        Due.plan(x, 0, 4, 9, 9, 9, 4, 9);
        Due.is("14: its own PLAN is not asked", x.least(0, 3), 306);
        Due.is("14: its PLAN is as it was", x.plan(0, 0, 4), 4);
        Due.wood(x, "hold 9 w=2;wedge 1");
        Due.is("14: HOLD by the notch", x.least(0, 2), 2);
        Due.is("14: wedge", x.least(0, 3), 906);
        x.plan(0, 4, 0);
        x.plan(0, 0, 0);
        Due.is("14: way", x.least(0, 8), FellTree.NONE);
        Due.is("14: way", x.least(0, -1), FellTree.NONE);
        Due.is("14: tree", x.least(1, 0), FellTree.NONE);
        Due.is("12: fell", x.fell(0), 4);
        Due.is("14: not STANDING", x.least(0, 0), FellTree.STATE);
        Due.is("14: way ahead of STATE", x.least(0, 8), FellTree.NONE);
    }

    private static void leastNone() {
        FellTree x = leaning(0, 0);
        Due.wood(x, "wedge 1");
        Due.is("14: SITS BACK by all", x.least(0, 4), -5);
        Due.wood(x, "split 40 t=0");
        Due.is("14: SPLITS by all", x.least(0, 0), -5);
        FellTree swung = leaning(2, 9);
        Due.is("14: ASIDE is too much for any STRIP", swung.least(0, 7), -5);
        Due.is("14: ASIDE is met by v", swung.least(0, 1), 0);
        FellTree sat = leaning(3, 9);
        Due.is("14: SAT by no WEDGES", sat.least(0, 0), 0);
        Due.is("14: SAT to the side by 3 WEDGES", sat.least(0, 2), 306);
    }

    private static void gusts() {
        FellTree x = new FellTree();
        Due.is("15: gusts", x.gusts(10), 0);
        Due.is("15: gusts", x.gusts(4), 10);
        Due.is("15: gusts(11)", x.gusts(11), FellTree.BAD);
        Due.is("15: gusts(-1)", x.gusts(-1), FellTree.BAD);
        Due.is("15: gusts", x.gusts(0), 4);
        Due.is("15: gusts", x.gusts(0), 0);
    }

    /** Notch up, wind from four sides: GUSTS 0 to 3 change nothing, 4 and 5 SIT BACK, 6 and 7 TEAR it OFF to 6. */
    private static FellTree windy() {
        FellTree x = new FellTree();
        x.tree(0, 0, 27, 2);
        Due.is("16: wood", Due.wood(x, "wind 1 w>3"), 0);
        return x;
    }

    private static void fraction(FellTree x, int what, int odds, int above, int below) {
        x.gusts(odds);
        Due.is("16: sure(0, " + what + ", 0) with " + odds, x.sure(0, what, 0), above);
        Due.is("16: sure(0, " + what + ", 1) with " + odds, x.sure(0, what, 1), below);
    }

    private static void sure() {
        FellTree x = windy();
        fraction(x, 0, 0, 1, 1);
        fraction(x, 0, 1, 19, 20);
        fraction(x, 0, 3, 17, 20);
        fraction(x, 0, 5, 3, 4);
        fraction(x, 0, 10, 1, 2);
        Due.wood(x, "wind 1 w=6");
        fraction(x, 0, 1, 79, 80);
        fraction(x, 0, 10, 7, 8);
        x.lean(0, 4, 1, 0);
        fraction(x, 0, 10, 0, 1);
        fraction(x, 0, 5, 0, 1);
        Due.wood(x, "wind 1 w=0");
        fraction(x, 0, 10, 1, 8);
        fraction(x, 0, 3, 3, 80);
        Due.wood(x, "wind 1 w=0;wind 40 w=0");
        fraction(x, 0, 10, 0, 1);
    }

    private static void harm() {
        FellTree x = windy();
        fraction(x, 1, 10, 0, 1);
        x.things(Due.places(25));
        fraction(x, 1, 0, 0, 1);
        fraction(x, 1, 5, 1, 8);
        fraction(x, 1, 10, 1, 4);
        x.things(Due.places(11));
        fraction(x, 1, 0, 1, 1);
        fraction(x, 1, 5, 3, 4);
        fraction(x, 1, 10, 1, 2);
        x.things(Due.places(3, 24, 27));
        fraction(x, 1, 5, 0, 1);
        x.things(Due.places(11, 19, 25));
        fraction(x, 1, 10, 3, 4);
        x.tree(0, 0, 19, 1);
        x.things(Due.places(11, 19));
        fraction(x, 1, 5, 0, 1);
        FellTree low = windy();
        low.tree(0, 0, 63, 1);
        low.tree(0, 0, 55, 1);
        low.plan(2, 0, 4);
        low.fell(1);
        low.things(Long.MIN_VALUE);
        low.gusts(0);
        Due.is("16: STRIKES PLACE 63", low.sure(2, 1, 0), 1);
    }

    private static void sureRefused() {
        FellTree x = windy();
        Due.is("16: tree", x.sure(1, 0, 0), FellTree.NO);
        Due.is("16: tree", x.sure(-1, 0, 0), FellTree.NO);
        Due.is("16: what", x.sure(0, 2, 0), FellTree.NO);
        Due.is("16: what", x.sure(0, -1, 0), FellTree.NO);
        Due.is("16: part", x.sure(0, 0, 2), FellTree.NO);
        Due.is("16: part", x.sure(0, 0, -1), FellTree.NO);
        x.fell(0);
        Due.is("16: not STANDING", x.sure(0, 0, 0), FellTree.NO);
    }

    private static void windIsAheadOfKind() {
        FellTree straight = new FellTree();
        straight.tree(1, 3, 27, 2);
        Due.wood(straight, "wind 3 w=2|w=6");
        fraction(straight, 0, 10, 1, 1);
        Due.wood(straight, "wind 4 w=2|w=6");
        fraction(straight, 0, 10, 3, 4);
        Due.plan(straight, 0, 0, 4, 0);
        Due.wood(straight, "wind 4 w=2");
        straight.gusts(10);
        Due.is("16: 4 less 4 is 0, the others are SWUNG", straight.sure(0, 0, 0), 1);
        Due.is("16: 4 less 4 is 0, the others are SWUNG", straight.sure(0, 0, 1), 8);
    }

    /** Wind from all sides with 50: GUSTS 0, 1, 7 SPLIT it, 2 and 6 TEAR it OFF, 3, 4, 5 SIT it BACK. */
    private static FellTree stormy() {
        FellTree x = new FellTree();
        x.tree(0, 0, 27, 2);
        Due.is("17: wood", Due.wood(x, "wind 50 w<8"), 0);
        return x;
    }

    private static void stand() {
        FellTree x = stormy();
        long near = Due.places(18, 19, 20, 26, 27, 28, 34, 35, 36);
        Due.is("17: stand, no gusts", x.stand(0), ~(near | Due.places(11)));
        x.gusts(1);
        Due.is("17: stand, both", x.stand(0), ~(near | Due.places(11, 25, 29)));
        x.gusts(9);
        Due.is("17: stand, both", x.stand(0), ~(near | Due.places(11, 25, 29)));
        x.gusts(10);
        Due.is("17: stand, gusts alone", x.stand(0), ~(near | Due.places(25, 29)));
        x.tree(0, 0, 26, 3);
        x.tree(0, 0, 63, 3);
        x.tree(0, 0, 1, 3);
        Due.is("12: fell", x.fell(3), 0);
        Due.is("17: it HANGS, others are STANDING, one has gone", x.stand(0), ~(near | Due.places(29, 63)));
        x.tree(0, 0, 56, 3);
        x.tree(0, 0, 58, 3);
        Due.is("17: six of them", x.stand(0), ~(near | Due.places(29, 63, 56, 58)));
        FellTree corner = new FellTree();
        corner.tree(0, 0, 0, 7);
        Due.is("17: in the corner", corner.stand(0), ~Due.places(0, 1, 8, 9));
        FellTree edge = new FellTree();
        edge.tree(0, 0, 31, 1);
        edge.lean(0, 4, 9, 0);
        Due.is("17: at the edge, it SITS BACK", edge.stand(0), ~Due.places(22, 23, 30, 31, 38, 39));
    }

    private static void standRefused() {
        FellTree x = stormy();
        Due.is("17: tree", x.stand(1), FellTree.NO);
        Due.is("17: tree", x.stand(-1), FellTree.NO);
        x.fell(0);
        Due.is("17: not STANDING", x.stand(0), FellTree.NO);
    }

    private static void row(FellTree x, int... due) {
        for (int k = 0; k < 5; k++) {
            Due.is("18: order(" + k + ")", x.order(k), k < due.length ? due[k] : -5);
        }
    }

    private static void order() {
        FellTree x = new FellTree();
        row(x);
        x.tree(0, 0, 27, 3);
        x.tree(0, 0, 29, 3);
        row(x, 0, 1);
        x.plan(0, 0, 2);
        row(x, 1, 0);
        x.tree(0, 0, 0, 1);
        row(x, 1, 0, 2);
        x.plan(1, 0, 6);
        row(x);
        Due.is("19: hung", x.hung(), 2);
        x.plan(1, 0, 0);
        x.lean(2, 4, 1, 0);
        row(x);
        x.lean(2, 4, 0, 0);
        x.fell(1);
        row(x, 0, 2);
        x.fell(0);
        x.fell(2);
        row(x);
        Due.is("18: k", x.order(-1), FellTree.NONE);
        Due.is("18: k", x.order(5), FellTree.NONE);
    }

    private static void orderMany() {
        FellTree x = new FellTree();
        for (int i = 0; i < 6; i++) {
            x.tree(0, 0, 16 + i, 7);
            x.plan(i, 0, 2);
        }
        for (int k = 0; k < 5; k++) {
            Due.is("18: more than 5", x.order(k), -9);
        }
        Due.is("18: NONE ahead of -9", x.order(5), FellTree.NONE);
        Due.is("19: all but the last", x.hung(), 5);
        Due.is("12: fell", x.fell(2), 0);
        row(x, 5, 4, 3, 1, 0);
        Due.is("19: one fewer", x.hung(), 4);
        x.gusts(10);
        Due.wood(x, "wind 99 w<8");
        row(x, 5, 4, 3, 1, 0);
    }

    private static void hung() {
        FellTree x = new FellTree();
        Due.is("19: none", x.hung(), 0);
        x.tree(0, 0, 27, 3);
        x.tree(0, 0, 35, 3);
        Due.is("19: hung", x.hung(), 1);
        x.plan(0, 0, 4);
        Due.is("19: hung", x.hung(), 2);
        x.lean(0, 0, 1, 0);
        Due.is("19: one SITS BACK", x.hung(), 1);
        x.plan(0, 0, 0);
        x.fell(0);
        Due.is("19: on none that has gone", x.hung(), 0);
        x.gusts(10);
        Due.wood(x, "wind 99 w<8");
        x.tree(0, 0, 36, 1);
        x.plan(2, 0, 6);
        Due.is("19: without wind", x.hung(), 1);
    }
}
