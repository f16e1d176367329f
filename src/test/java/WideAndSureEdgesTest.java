/** Promises 13 to 19 and what 'Terms' says of WIDE, LEAST, GUSTS, SURE, STAND, ORDER, HUNG: at their bounds. */
public final class WideAndSureEdgesTest {
    private static final int NONE = FellTree.NONE, BAD = FellTree.BAD, STATE = FellTree.STATE;
    private static final long NO = FellTree.NO;

    public static void main(String[] args) {
        wideByEachNumberOfWedges();
        wideNone();
        wideRefused();
        leastByNoneToNineWedges();
        leastOfSeveral();
        leastByNineLeftOrRight();
        leastRefused();
        gustsAtBothEnds();
        surestAndLeastSure();
        harmAtBothEnds();
        everyOdds();
        sureRefused();
        standByOdds();
        standAtTheEdges();
        standAmongOthers();
        standRefused();
        orderOfNoneToSix();
        orderOfFewer();
        orderIsTheFirstRow();
        orderOfNone();
        orderRefused();
        hungNoneToAll();
        Due.end();
    }

    /** One that leans with 9 to WAY 0: with wedge 2 notch 3 and 5 take 5 WEDGES, notch 4 takes 9. */
    private static FellTree leaning(String wood) {
        FellTree x = new FellTree();
        x.tree(0, 0, 27, 2);
        x.lean(0, 0, 9, 0);
        Due.is("4: wood of '" + wood + "'", Due.wood(x, wood), 0);
        return x;
    }

    private static void wideByEachNumberOfWedges() {
        FellTree two = leaning("wedge 2");
        int[] due = {199, 199, 199, 199, 199, 239, 239, 239, 239, 255};
        for (int n = 0; n <= 9; n++) {
            Due.is("13: wedge 2, wide(0, " + n + ")", two.wide(0, n), due[n]);
        }
        FellTree one = leaning("wedge 1");
        Due.is("13: wedge 1, 8 WEDGES", one.wide(0, 8), 199);
        Due.is("13: wedge 1, 9 WEDGES", one.wide(0, 9), 239);
        FellTree most = leaning("wedge 99");
        Due.is("13: wedge 99, none", most.wide(0, 0), 199);
        Due.is("13: wedge 99, one SPLITS it each WAY", most.wide(0, 1), 255);
        Due.is("13: wedge 99, fewer than 9 do", most.wide(0, 9), 255);
    }

    private static void wideNone() {
        FellTree sat = new FellTree();
        sat.tree(3, 9, 27, 2);
        Due.is("13: it SITS BACK by all", sat.wide(0, 0), 0);
        Due.is("13: it SITS BACK by all", sat.wide(0, 2), 0);
        Due.is("13: by 3 by none", sat.wide(0, 3), 255);
        Due.wood(sat, "wedge 0");
        Due.is("13: wedge 0", sat.wide(0, 9), 0);
        Due.wood(sat, "wedge 1");
        Due.is("13: wedge 1, 8 WEDGES", sat.wide(0, 8), 0);
        Due.is("13: wedge 1, 9 WEDGES", sat.wide(0, 9), 255);
    }

    private static void wideRefused() {
        FellTree x = leaning("wedge 2");
        for (int n : Outside.of(0, 9)) {
            Due.is("13: n " + n, x.wide(0, n), BAD);
            Due.is("13: tree and n", x.wide(1, n), NONE);
        }
        for (int tree : Outside.ofTrees(1)) {
            Due.is("13: tree " + tree, x.wide(tree, 0), NONE);
        }
        Due.is("12: fell", x.fell(0), 0);
        Due.is("13: STATE", x.wide(0, 0), STATE);
        Due.is("13: STATE", x.wide(0, 9), STATE);
        for (int n : Outside.of(0, 9)) {
            Due.is("13: n and STATE", x.wide(0, n), BAD);
        }
    }

    private static void leastByNoneToNineWedges() {
        FellTree two = leaning("wedge 2");
        int[] due = {0, 6, 6, 506, 900, 560, 60, 60};
        for (int way = 0; way < 8; way++) {
            Due.is("14: wedge 2, least(0, " + way + ")", two.least(0, way), due[way]);
        }
        FellTree one = leaning("wedge 1");
        Due.is("14: 9 WEDGES are just enough", one.least(0, 3), 906);
        Due.is("14: 9 WEDGES are too few", one.least(0, 4), -5);
        FellTree none = leaning("wedge 0");
        Due.is("14: wedge 0", none.least(0, 3), -5);
        Due.is("14: FORWARD is 0", none.least(0, 2), 6);
    }

    /** The fewest WEDGES first, then the least left, then right: though another PLAN has less of the others. */
    private static void leastOfSeveral() {
        FellTree x = leaning("split 26 t=0");
        Due.is("14: FORWARD 18 SPLITS, with WEDGES still more", x.least(0, 0), -5);
        Due.is("14: FORWARD 9 does not", x.least(0, 1), 6);
        FellTree back = leaning("wedge 9;split 39 w=4");
        Due.is("14: 2 WEDGES to 0, 1 SITS BACK", back.least(0, 4), 200);
        FellTree over = leaning("wedge 10;split 39 w=4");
        Due.is("14: 1 WEDGE is 8 short, 2 are 1 above SPLITS AT", over.least(0, 4), -5);
        FellTree hold = leaning("hold 1 w=2");
        Due.is("14: left 0 with the least right", hold.least(0, 2), 5);
        FellTree strong = leaning("hold 99 w=2");
        Due.is("14: left 0, right 1", strong.least(0, 2), 1);
        FellTree other = leaning("hold 99 w=6");
        Due.is("14: left 0, right 1, though left 1, right 0 would do", other.least(0, 6), 1);
    }

    private static void leastByNineLeftOrRight() {
        FellTree x = new FellTree();
        x.tree(2, 9, 27, 2);
        Due.wood(x, "hold 1 t=0;wedge 1");
        x.lean(0, 2, 9, 0);
        Due.is("14: left 9 alone", x.least(0, 0), 90);
        x.lean(0, 3, 9, 0);
        Due.is("14: left 9 alone, 9 WEDGES", x.least(0, 0), 990);
        x.lean(0, 3, 9, 2);
        Due.is("14: left 9 is not enough", x.least(0, 0), -5);
        FellTree y = new FellTree();
        y.tree(0, 0, 27, 2);
        Due.wood(y, "wedge 1");
        y.lean(0, 5, 9, 9);
        Due.is("14: right 9 alone, 9 WEDGES", y.least(0, 0), 909);
    }

    private static void leastRefused() {
        FellTree x = leaning("wedge 2");
        for (int way : Outside.of(0, 7)) {
            Due.is("14: way " + way, x.least(0, way), NONE);
        }
        for (int tree : Outside.ofTrees(1)) {
            Due.is("14: tree " + tree, x.least(tree, 0), NONE);
        }
        x.fell(0);
        for (int way = 0; way < 8; way++) {
            Due.is("14: STATE", x.least(0, way), STATE);
        }
        for (int way : Outside.of(0, 7)) {
            Due.is("14: way and STATE", x.least(0, way), NONE);
        }
    }

    private static void gustsAtBothEnds() {
        FellTree x = new FellTree();
        Due.is("15: 0 at first", x.told(2), 0);
        int before = 0;
        for (int n = 0; n <= 10; n++) {
            Due.is("15: gusts(" + n + ")", x.gusts(n), before);
            Due.is("15: told", x.told(2), n);
            before = n;
        }
        for (int n : Outside.of(0, 10)) {
            Due.is("15: gusts(" + n + ")", x.gusts(n), BAD);
            Due.is("15: as it was", x.told(2), 10);
        }
        Due.is("15: gusts(0)", x.gusts(0), 10);
    }

    private static void fraction(FellTree x, int what, int above, int below) {
        Due.is("16: above the line", x.sure(0, what, 0), above);
        Due.is("16: below the line", x.sure(0, what, 1), below);
    }

    /** FORWARD is -2 without wind, 0 by the GUST of WAY 0 alone. */
    private static FellTree byOneGust() {
        FellTree x = new FellTree();
        x.tree(0, 0, 27, 2);
        x.lean(0, 4, 1, 0);
        Due.wood(x, "wind 1 w=0");
        return x;
    }

    private static void surestAndLeastSure() {
        FellTree x = byOneGust();
        fraction(x, 0, 0, 1);
        x.gusts(1);
        fraction(x, 0, 1, 80);
        x.gusts(2);
        fraction(x, 0, 1, 40);
        x.gusts(9);
        fraction(x, 0, 9, 80);
        x.gusts(10);
        fraction(x, 0, 1, 8);
        x.lean(0, 4, 0, 0);
        fraction(x, 0, 1, 1);
        x.gusts(1);
        fraction(x, 0, 1, 1);
        x.gusts(0);
        fraction(x, 0, 1, 1);
        Due.wood(x, "wind 1 w=6");
        x.gusts(1);
        fraction(x, 0, 79, 80);
        x.gusts(9);
        fraction(x, 0, 71, 80);
        x.gusts(10);
        fraction(x, 0, 7, 8);
    }

    private static void harmAtBothEnds() {
        FellTree x = byOneGust();
        x.things(-1);
        x.gusts(0);
        fraction(x, 1, 0, 1);
        x.gusts(1);
        fraction(x, 1, 1, 80);
        x.things(0);
        fraction(x, 1, 0, 1);
        x.lean(0, 4, 0, 0);
        x.things(Due.places(11));
        fraction(x, 1, 1, 1);
        x.things(Due.places(3, 27));
        fraction(x, 1, 0, 1);
        x.tree(0, 0, 11, 1);
        x.things(Due.places(11));
        fraction(x, 1, 0, 1);
        x.things(Due.places(19));
        fraction(x, 1, 1, 1);
    }

    /** Half of the GUSTS change it: 1 less a twentieth for each of the odds. */
    private static void everyOdds() {
        int[][] due = {{1, 1}, {19, 20}, {9, 10}, {17, 20}, {4, 5}, {3, 4}, {7, 10}, {13, 20}, {3, 5}, {11, 20}, {1, 2}};
        FellTree x = new FellTree();
        x.tree(0, 0, 27, 2);
        Due.wood(x, "wind 1 w>3");
        for (int odds = 0; odds <= 10; odds++) {
            x.gusts(odds);
            fraction(x, 0, due[odds][0], due[odds][1]);
        }
    }

    private static void sureRefused() {
        FellTree x = byOneGust();
        for (int n : Outside.of(0, 1)) {
            Due.is("16: what " + n, x.sure(0, n, 0), NO);
            Due.is("16: part " + n, x.sure(0, 1, n), NO);
            Due.is("16: what and part", x.sure(0, n, n), NO);
        }
        for (int tree : Outside.ofTrees(1)) {
            Due.is("16: tree " + tree, x.sure(tree, 0, 0), NO);
        }
        x.lean(0, 4, 0, 0);
        x.fell(0);
        for (int what = 0; what < 2; what++) {
            Due.is("16: not STANDING", x.sure(0, what, 0), NO);
            Due.is("16: not STANDING", x.sure(0, what, 1), NO);
        }
    }

    /** Without wind it lies up, by the GUST of WAY 2 to the right, by that of 6 to the left. */
    private static void standByOdds() {
        FellTree x = new FellTree();
        x.tree(0, 0, 27, 2);
        Due.wood(x, "wind 1 w=2|w=6");
        long near = Due.places(18, 19, 20, 26, 27, 28, 34, 35, 36);
        for (int odds = 0; odds <= 10; odds++) {
            x.gusts(odds);
            long aside = odds > 0 ? Due.places(25, 29) : 0, calm = Due.places(11);
            Due.is("17: stand by " + odds, x.stand(0), ~(near | aside | calm));
        }
        Due.wood(x, "wind 1 w<8");
        Due.is("17: by 10 the GUST of WAY 0 lets it lie on 11", x.stand(0), ~(near | Due.places(11, 25, 29)));
        Due.wood(x, "wind 50 w<8");
        Due.is("17: none that MAY COME lets it lie on 11", x.stand(0), ~(near | Due.places(25, 29)));
        x.gusts(9);
        Due.is("17: none MAY COME too", x.stand(0), ~(near | Due.places(11, 25, 29)));
    }

    private static void standAtTheEdges() {
        int[] places = {0, 7, 56, 63, 3, 24, 31, 60};
        long[] near = {Due.places(0, 1, 8, 9), Due.places(6, 7, 14, 15), Due.places(48, 49, 56, 57), Due.places(54, 55, 62, 63),
            Due.places(2, 3, 4, 10, 11, 12), Due.places(16, 17, 24, 25, 32, 33), Due.places(22, 23, 30, 31, 38, 39),
            Due.places(51, 52, 53, 59, 60, 61)};
        for (int i = 0; i < places.length; i++) {
            FellTree x = new FellTree();
            x.tree(3, 9, places[i], 7);
            Due.is("17: it SITS BACK on " + places[i], x.stand(0), ~near[i]);
        }
        FellTree low = new FellTree();
        low.tree(0, 0, 0, 7);
        low.plan(0, 0, 3);
        Due.is("17: to the far corner", low.stand(0), ~Due.places(0, 1, 8, 9, 18, 27, 36, 45, 54, 63));
        FellTree six = new FellTree();
        six.tree(0, 0, 0, 6);
        six.plan(0, 0, 3);
        Due.is("17: one short of it", six.stand(0), ~Due.places(0, 1, 8, 9, 18, 27, 36, 45, 54));
    }

    private static void standAmongOthers() {
        FellTree x = new FellTree();
        x.tree(0, 0, 56, 7);
        for (int tree = 1; tree < 6; tree++) {
            x.tree(0, 0, 58 + tree, 1);
        }
        long near = Due.places(48, 49, 56, 57), up = Due.places(40, 32, 24, 16, 8, 0);
        Due.is("17: five others are STANDING", x.stand(0), ~(near | up | Due.places(59, 60, 61, 62, 63)));
        for (int tree = 1; tree < 6; tree++) {
            x.fell(tree);
        }
        Due.is("17: none but itself", x.stand(0), ~(near | up));
    }

    private static void standRefused() {
        FellTree x = byOneGust();
        for (int tree : Outside.ofTrees(1)) {
            Due.is("17: tree " + tree, x.stand(tree), NO);
        }
        x.lean(0, 4, 0, 0);
        x.fell(0);
        Due.is("17: not STANDING", x.stand(0), NO);
    }

    private static void row(String what, FellTree x, int... due) {
        for (int k = 0; k < 5; k++) {
            Due.is("18: " + what + ", order(" + k + ")", x.order(k), k < due.length ? due[k] : -5);
        }
    }

    private static void orderOfNoneToSix() {
        FellTree x = new FellTree();
        row("none", x);
        int[][] due = {{0}, {0, 1}, {0, 1, 2}, {0, 1, 2, 3}, {0, 1, 2, 3, 4}};
        for (int tree = 0; tree < 5; tree++) {
            x.tree(0, 0, 40 + tree, 1);
            row("as many as " + (tree + 1), x, due[tree]);
        }
        x.tree(0, 0, 45, 1);
        row("six", x, -9, -9, -9, -9, -9);
        x.lean(0, 4, 9, 0);
        row("six, of which one SITS BACK", x, -9, -9, -9, -9, -9);
        Due.is("12: fell", x.fell(5), 0);
        row("five, of which one SITS BACK", x);
        x.lean(0, 4, 0, 0);
        row("five", x, 0, 1, 2, 3, 4);
    }

    private static void orderOfFewer() {
        FellTree x = new FellTree();
        for (int tree = 0; tree < 6; tree++) {
            x.tree(0, 0, 40 + tree, 1);
        }
        x.fell(0);
        row("without the first", x, 1, 2, 3, 4, 5);
        x.fell(5);
        row("without the last", x, 1, 2, 3, 4);
        x.fell(1);
        x.fell(2);
        x.fell(4);
        row("one", x, 3);
        x.fell(3);
        row("all have gone", x);
    }

    /** Each to the right of the one before it, all going to the right: the last one first; and turned about. */
    private static void orderIsTheFirstRow() {
        FellTree x = new FellTree();
        for (int tree = 0; tree < 5; tree++) {
            x.tree(0, 0, 40 + tree, 7);
            x.plan(tree, 0, 2);
        }
        row("to the right", x, 4, 3, 2, 1, 0);
        for (int tree = 0; tree < 5; tree++) {
            x.plan(tree, 0, 6);
        }
        row("to the left", x, 0, 1, 2, 3, 4);
        x.plan(0, 0, 2);
        row("the first waits for all, all for the first", x);
        x.plan(1, 0, 0);
        x.plan(2, 0, 4);
        row("0 and 3 wait for one another", x);
        x.plan(3, 0, 2);
        row("3 and 4 wait for one another", x);
        x.plan(4, 0, 0);
        row("3 waits for 4, 0 for all", x, 1, 2, 4, 3, 0);
        x.plan(2, 0, 2);
        row("2 waits for 3", x, 1, 4, 3, 2, 0);
    }

    private static void orderOfNone() {
        FellTree x = new FellTree();
        x.tree(0, 0, 27, 1);
        x.tree(0, 0, 28, 1);
        x.tree(0, 0, 0, 1);
        x.plan(0, 0, 2);
        x.plan(1, 0, 6);
        row("each HANGS on the other", x);
        x.plan(1, 0, 2);
        row("one is free", x, 1, 0, 2);
        x.lean(2, 4, 1, 0);
        row("one SITS BACK", x);
        FellTree alone = new FellTree();
        alone.tree(3, 1, 27, 1);
        row("one alone SITS BACK", alone);
    }

    private static void orderRefused() {
        FellTree x = new FellTree();
        for (int k : Outside.of(0, 4)) {
            Due.is("18: k " + k, x.order(k), NONE);
        }
        for (int tree = 0; tree < 6; tree++) {
            x.tree(0, 0, tree, 1);
        }
        for (int k : Outside.of(0, 4)) {
            Due.is("18: k and more than 5", x.order(k), NONE);
        }
        Due.is("18: more than 5", x.order(0), -9);
        Due.is("18: more than 5", x.order(4), -9);
    }

    private static void hungNoneToAll() {
        FellTree x = new FellTree();
        Due.is("19: no TREES", x.hung(), 0);
        int[] places = {0, 2, 16, 18, 32, 34};
        for (int tree = 0; tree < 6; tree++) {
            x.tree(0, 0, places[tree], 2);
            x.plan(tree, 0, tree % 2 == 0 ? 2 : 6);
            Due.is("19: hung", x.hung(), tree % 2 == 0 ? tree : tree + 1);
        }
        x.lean(0, 6, 1, 0);
        Due.is("19: one SITS BACK, another HANGS on it", x.hung(), 5);
        x.lean(0, 2, 0, 0);
        for (int tree = 0; tree < 6; tree++) {
            x.fell(tree);
            Due.is("19: hung", x.hung(), tree % 2 == 0 ? 4 - tree : 5 - tree);
        }
    }
}
