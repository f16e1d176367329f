/** Promises 6 to 12 and what 'Terms' says of TREES, PLANS and HOW: the first and the last, and the next to both. */
public final class TreesAndPlansEdgesTest {
    private static final int NONE = FellTree.NONE, BAD = FellTree.BAD, STATE = FellTree.STATE, FULL = FellTree.FULL;

    public static void main(String[] args) {
        everyKind();
        everyPlace();
        vAndHeightAtBothEnds();
        sixTreesAndOneMore();
        refusedTakesNoNumber();
        treesTwoRefusals();
        placeIsFreeBehindAnUndo();
        leanAtBothEnds();
        leanTwoRefusals();
        ofAtBothEnds();
        planAtBothEnds();
        planOfEachItsOwn();
        roundAbout();
        strengthIsCut();
        asideByTrue();
        strengthByTorn();
        splitsAtBySplit();
        sitsBackBelowNothing();
        splitsAboveSplitsAt();
        tornOffAboveStrength();
        swungAboveHalf();
        howOfSeveral();
        wayWraps();
        farthest();
        placesToTheEdge();
        hangsAtBothEnds();
        goesTwoRefusals();
        liesIsNothingOrNo();
        fellTwice();
        Due.end();
    }

    private static FellTree one(int kind, int v, int place, int height) {
        FellTree x = new FellTree();
        Due.is("6: tree", x.tree(kind, v, place, height), 0);
        return x;
    }

    private static void everyKind() {
        for (int kind = 0; kind <= 6; kind++) {
            Due.is("8: KIND", one(kind, 0, 0, 1).of(0, 0), kind);
        }
        for (int kind : Outside.of(0, 6)) {
            FellTree x = new FellTree();
            Due.is("6: kind " + kind, x.tree(kind, 0, 0, 1), NONE);
            Due.is("6: no TREE", x.count(0), 0);
        }
    }

    private static void everyPlace() {
        for (int place = 0; place < 64; place++) {
            FellTree x = one(0, 0, place, 1);
            Due.is("8: PLACE", x.of(0, 2), place);
            Due.is("6: it is taken", x.tree(0, 0, place, 1), STATE);
            Due.is("6: the next is not", x.tree(0, 0, (place + 1) % 64, 1), 1);
        }
        for (int place : Outside.of(0, 63)) {
            FellTree x = new FellTree();
            Due.is("6: place " + place, x.tree(0, 0, place, 1), NONE);
            Due.is("6: no TREE", x.count(0), 0);
        }
    }

    private static void vAndHeightAtBothEnds() {
        for (int v = 0; v <= 9; v++) {
            Due.is("8: v", one(6, v, 0, 1).of(0, 1), v);
        }
        for (int height = 1; height <= 7; height++) {
            Due.is("8: HEIGHT", one(6, 0, 0, height).of(0, 3), height);
        }
        for (int n : Outside.of(0, 9)) {
            Due.is("6: v " + n, new FellTree().tree(0, n, 0, 1), BAD);
        }
        for (int n : Outside.of(1, 7)) {
            Due.is("6: height " + n, new FellTree().tree(0, 0, 0, n), BAD);
        }
        Due.is("6: height 0", new FellTree().tree(0, 0, 0, 0), BAD);
        Due.is("6: both", new FellTree().tree(0, -1, 0, 0), BAD);
    }

    private static void sixTreesAndOneMore() {
        FellTree x = new FellTree();
        for (int tree = 0; tree < 6; tree++) {
            Due.is("6: count(0)", x.count(0), tree);
            Due.is("8: not yet", x.of(tree, 0), NONE);
            Due.is("6: the number", x.tree(tree, tree, 60 - tree, tree + 1), tree);
            Due.is("8: now", x.of(tree, 3), tree + 1);
        }
        Due.is("6: a seventh", x.tree(0, 0, 0, 1), FULL);
        Due.is("12: fell", x.fell(0), 0);
        Due.is("6: a seventh, though one has gone", x.tree(0, 0, 0, 1), FULL);
        Due.is("6: on the PLACE of one that has gone", x.tree(0, 0, 60, 1), STATE);
        Due.is("6: six still", x.count(0), 6);
        Due.is("8: no seventh", x.of(6, 0), NONE);
    }

    private static void refusedTakesNoNumber() {
        FellTree x = new FellTree();
        x.tree(7, 0, 0, 1);
        x.tree(0, 10, 0, 1);
        Due.is("6: the first number", x.tree(0, 0, 0, 1), 0);
        x.tree(0, 0, 0, 1);
        x.tree(0, 0, 64, 1);
        x.tree(0, 0, 1, 8);
        Due.is("6: the second number", x.tree(0, 0, 1, 1), 1);
        Due.is("6: two", x.count(0), 2);
        Due.is("30: two are STANDING", x.count(5), 2);
    }

    private static void treesTwoRefusals() {
        FellTree x = one(0, 0, 10, 1);
        Due.is("6: kind and v", x.tree(-1, 10, 11, 1), NONE);
        Due.is("6: kind and height", x.tree(7, 0, 11, 0), NONE);
        Due.is("6: place and v", x.tree(0, 10, -1, 1), NONE);
        Due.is("6: place and height", x.tree(0, 0, 64, 8), NONE);
        Due.is("6: kind and PLACE that is taken", x.tree(7, 0, 10, 1), NONE);
        Due.is("6: v and PLACE that is taken", x.tree(0, 10, 10, 1), BAD);
        Due.is("6: height and PLACE that is taken", x.tree(0, 0, 10, 0), BAD);
        for (int tree = 1; tree < 6; tree++) {
            x.tree(0, 0, 10 + tree, 1);
        }
        Due.is("6: kind and FULL", x.tree(7, 0, 20, 1), NONE);
        Due.is("6: place and FULL", x.tree(0, 0, 64, 1), NONE);
        Due.is("6: v and FULL", x.tree(0, 10, 20, 1), BAD);
        Due.is("6: height and FULL", x.tree(0, 0, 20, 8), BAD);
        Due.is("6: PLACE that is taken and FULL", x.tree(0, 0, 15, 1), STATE);
        Due.is("6: all of them", x.tree(7, 10, 64, 8), NONE);
    }

    private static void placeIsFreeBehindAnUndo() {
        FellTree x = one(0, 0, 10, 1);
        x.image();
        Due.is("6: tree", x.tree(0, 0, 11, 1), 1);
        x.undo();
        Due.is("6: its PLACE is free", x.tree(6, 9, 11, 7), 1);
        Due.is("6: that of the first is not", x.tree(0, 0, 10, 1), STATE);
    }

    private static void leanAtBothEnds() {
        FellTree x = one(0, 0, 27, 1);
        int before = 0;
        for (int way = 0; way < 8; way++) {
            for (int lean = 0; lean <= 9; lean += 9) {
                Due.is("7: LEAN that it had", x.lean(0, way, lean, 9 - lean), before);
                Due.is("8: LEAN", x.of(0, 4), lean);
                Due.is("8: WAY", x.of(0, 5), way);
                Due.is("8: HOLLOW", x.of(0, 6), 9 - lean);
                before = lean;
            }
        }
        for (int n : Outside.of(0, 9)) {
            Due.is("7: lean " + n, x.lean(0, 1, n, 1), BAD);
            Due.is("7: hollow " + n, x.lean(0, 1, 1, n), BAD);
        }
        for (int n : Outside.of(0, 7)) {
            Due.is("7: way " + n, x.lean(0, n, 1, 1), NONE);
        }
        Due.is("8: LEAN", x.of(0, 4), 9);
        Due.is("8: WAY", x.of(0, 5), 7);
        Due.is("8: HOLLOW", x.of(0, 6), 0);
        Due.is("7: all of them", x.lean(0, 0, 9, 9), 9);
    }

    private static void leanTwoRefusals() {
        FellTree x = one(0, 0, 27, 1);
        Due.is("7: tree and lean", x.lean(1, 0, 10, 0), NONE);
        Due.is("7: tree and hollow", x.lean(-1, 0, 0, 10), NONE);
        Due.is("7: way and lean", x.lean(0, 8, -1, 0), NONE);
        Due.is("7: way and hollow", x.lean(0, -1, 0, -1), NONE);
        Due.is("7: lean and hollow", x.lean(0, 0, 10, 10), BAD);
    }

    private static void ofAtBothEnds() {
        FellTree x = new FellTree();
        for (int tree = 0; tree < 6; tree++) {
            x.tree(tree, 9 - tree, tree, 7 - tree);
        }
        for (int tree = 0; tree < 6; tree++) {
            int[] due = {tree, 9 - tree, tree, 7 - tree, 0, 0, 0, 1};
            for (int what = 0; what < 8; what++) {
                Due.is("8: of(" + tree + ", " + what + ")", x.of(tree, what), due[what]);
            }
        }
        for (int what : Outside.of(0, 7)) {
            Due.is("8: of(0, " + what + ")", x.of(0, what), NONE);
            Due.is("8: of(5, " + what + ")", x.of(5, what), NONE);
        }
        for (int tree : Outside.ofTrees(6)) {
            Due.is("8: of(" + tree + ", 0)", x.of(tree, 0), NONE);
            Due.is("8: of(" + tree + ", 7)", x.of(tree, 7), NONE);
        }
    }

    private static void planAtBothEnds() {
        int[] most = {7, 9, 9, 9, 7, 9};
        for (int part = 0; part < 6; part++) {
            FellTree x = one(0, 0, 27, 1);
            int before = 0;
            for (int n = 0; n <= most[part]; n++) {
                Due.is("9: plan(0, " + part + ", " + n + ")", x.plan(0, part, n), before);
                before = n;
            }
            for (int n : Outside.of(0, most[part])) {
                Due.is("9: plan(0, " + part + ", " + n + ")", x.plan(0, part, n), BAD);
                Due.is("9: tree and n", x.plan(1, part, n), NONE);
            }
            Due.is("9: what it was", x.plan(0, part, 0), most[part]);
        }
        FellTree x = one(0, 0, 27, 1);
        for (int part : Outside.of(0, 5)) {
            Due.is("9: part " + part, x.plan(0, part, 0), NONE);
            Due.is("9: part and n", x.plan(0, part, -1), NONE);
            Due.is("9: part and n", x.plan(0, part, 10), NONE);
        }
    }

    private static void planOfEachItsOwn() {
        FellTree x = new FellTree();
        for (int tree = 0; tree < 6; tree++) {
            x.tree(0, 0, tree, 1);
        }
        for (int tree = 0; tree < 6; tree++) {
            for (int part = 0; part < 6; part++) {
                Due.is("9: at first", x.plan(tree, part, (tree + part) % 8), 0);
            }
        }
        for (int tree = 0; tree < 6; tree++) {
            for (int part = 0; part < 6; part++) {
                Due.is("9: then", x.plan(tree, part, 7), (tree + part) % 8);
            }
        }
    }

    /** ALONG and SIDE at each distance, with 0 behind 7. */
    private static void roundAbout() {
        int[] along = {2, 1, 0, -1, -2, -1, 0, 1}, side = {0, 1, 1, 1, 0, -1, -1, -1};
        for (int notch : new int[] {0, 3, 4, 7}) {
            FellTree x = one(0, 0, 27, 1);
            x.plan(0, 0, notch);
            for (int steps = 0; steps < 8; steps++) {
                int way = (notch + steps) % 8;
                x.lean(0, way, 1, 0);
                Due.is("10: ALONG of " + way + " from " + notch, x.goes(0, 0), along[steps]);
                Due.is("10: SIDE of " + way + " from " + notch, x.goes(0, 1), side[steps]);
                x.lean(0, 0, 0, 0);
                x.plan(0, 4, way);
                x.plan(0, 5, 1);
                Due.is("10: ALONG of the rope's " + way, x.goes(0, 0), 2 * along[steps]);
                Due.is("10: SIDE of the rope's " + way, x.goes(0, 1), 2 * side[steps]);
                x.plan(0, 5, 0);
            }
        }
    }

    /** HOLLOW times STRIP by 10, cut: 9 and 10 and 19 and 20 tenths. */
    private static void strengthIsCut() {
        int[][] due = {{1, 0, 0, 1}, {9, 0, 1, 9}, {9, 1, 1, 9}, {9, 2, 1, 10}, {3, 0, 3, 3}, {5, 0, 2, 4}, {9, 0, 9, 1},
            {1, 0, 9, 1}, {2, 0, 9, 1}, {9, 9, 0, 18}, {9, 9, 9, 2}, {0, 0, 9, 0}, {0, 9, 2, 8}, {9, 1, 2, 8}, {0, 7, 7, 3}};
        for (int[] row : due) {
            FellTree x = one(0, 0, 27, 1);
            x.lean(0, 0, 0, row[2]);
            Due.plan(x, 0, 0, row[0], row[1]);
            Due.is("10: STRENGTH of " + row[0] + " " + row[1] + " " + row[2], x.goes(0, 2), row[3]);
        }
    }

    /** TRUE, HUNG: ASIDE is 0 from -v to v, and as it was beyond. */
    private static void asideByTrue() {
        for (int kind : new int[] {1, 4}) {
            for (int v : new int[] {0, 1, 4, 9}) {
                FellTree x = one(kind, v, 27, 1);
                for (int aside : new int[] {-v - 1, -v, 0, v, v + 1}) {
                    x.lean(0, aside > 0 ? 2 : 6, Math.min(9, Math.abs(aside)), 0);
                    x.plan(0, 1, aside < -9 ? 1 : 0);
                    x.plan(0, 2, aside > 9 ? 1 : 0);
                    Due.is("10: ASIDE " + aside + " of " + kind + " with " + v, x.goes(0, 1), Math.abs(aside) > v ? aside : 0);
                }
            }
        }
    }

    /** TORN: STRENGTH is v less, 0 at least. */
    private static void strengthByTorn() {
        for (int v : new int[] {0, 1, 5, 9}) {
            FellTree x = one(5, v, 27, 1);
            for (int strip = 0; strip <= 18; strip++) {
                x.plan(0, 1, Math.min(9, strip));
                x.plan(0, 2, strip - Math.min(9, strip));
                Due.is("10: STRENGTH of TORN with " + v, x.goes(0, 2), Math.max(0, strip - v));
            }
        }
        FellTree swung = one(2, 9, 27, 1);
        swung.plan(0, 1, 5);
        Due.is("10: STRENGTH of SWUNG", swung.goes(0, 2), 5);
    }

    /** SPLIT: SPLITS AT is v less, 0 at least. */
    private static void splitsAtBySplit() {
        int[][] due = {{0, 0, 40}, {0, 9, 31}, {30, 9, 1}, {31, 9, 0}, {32, 9, 0}, {40, 0, 0}, {40, 1, 0}, {99, 9, 0}, {39, 1, 0},
            {39, 0, 1}, {38, 1, 1}};
        for (int[] row : due) {
            FellTree x = one(6, row[1], 27, 1);
            Due.wood(x, "split " + row[0] + " t=0");
            Due.is("10: SPLITS AT of SPLIT, " + row[0] + " " + row[1], x.goes(0, 3), row[2]);
            FellTree sat = one(3, row[1], 27, 1);
            Due.wood(sat, "split " + row[0] + " t=0");
            Due.is("10: SPLITS AT of SAT, " + row[0], sat.goes(0, 3), Math.max(0, 40 - row[0]));
        }
    }

    /** FORWARD -1 SITS BACK, 0 does not. */
    private static void sitsBackBelowNothing() {
        FellTree x = one(0, 0, 27, 3);
        x.lean(0, 3, 3, 0);
        Due.plan(x, 0, 0, 9, 9, 1);
        Due.is("10: FORWARD", x.goes(0, 0), 0);
        Due.is("10: FORWARD 0 goes TRUE", x.goes(0, 4), 0);
        x.lean(0, 3, 4, 0);
        Due.is("10: FORWARD, which is no refusal", x.goes(0, 0), -1);
        Due.is("10: FORWARD -1 SITS BACK", x.goes(0, 4), 2);
        Due.is("10: no WAY", x.goes(0, 5), -5);
        Due.is("10: no PLACES", x.goes(0, 6), 0);
        Due.is("10: on none", x.goes(0, 7), -5);
        Due.is("11: lies", x.lies(0), 0);
        for (int kind : new int[] {3, 6}) {
            FellTree sat = one(kind, 3, 27, 3);
            sat.plan(0, 3, 1);
            Due.is("10: FORWARD of " + kind, sat.goes(0, 0), 0);
            Due.is("10: HOW of " + kind, sat.goes(0, 4), 0);
            FellTree more = one(kind, 4, 27, 3);
            more.plan(0, 3, 1);
            Due.is("10: FORWARD of " + kind, more.goes(0, 0), -1);
            Due.is("10: HOW of " + kind, more.goes(0, 4), 2);
        }
    }

    /** FORWARD as much as SPLITS AT does not split, one more does. */
    private static void splitsAboveSplitsAt() {
        FellTree x = one(0, 0, 27, 3);
        Due.wood(x, "wedge 1;split 35 t=0");
        for (int wedges = 0; wedges <= 9; wedges++) {
            x.plan(0, 3, wedges);
            Due.is("10: FORWARD " + wedges + " at 5", x.goes(0, 4), wedges <= 5 ? 0 : 4);
            Due.is("10: PLACES", x.goes(0, 6), wedges <= 5 ? 3 : 2);
        }
        Due.wood(x, "wedge 1;split 40 t=0");
        x.plan(0, 3, 0);
        Due.is("10: FORWARD 0 at 0", x.goes(0, 4), 0);
        x.plan(0, 3, 1);
        Due.is("10: FORWARD 1 at 0", x.goes(0, 4), 4);
    }

    /** ASIDE as much as STRENGTH is SWUNG, one more TORN OFF; to both sides. */
    private static void tornOffAboveStrength() {
        for (int strip = 0; strip <= 4; strip++) {
            for (int side = 2; side <= 6; side += 4) {
                FellTree x = one(0, 0, 27, 3);
                Due.plan(x, 0, 0, strip, strip);
                int strength = 2 * strip;
                x.lean(0, side, strength + 1, 0);
                Due.is("10: ASIDE is one above STRENGTH", x.goes(0, 4), 3);
                Due.is("10: two on", x.goes(0, 5), side);
                x.lean(0, side, strength, 0);
                Due.is("10: ASIDE is as much as STRENGTH", x.goes(0, 4), strip == 0 ? 0 : 1);
                Due.is("10: one on", x.goes(0, 5), strip == 0 ? 0 : side == 2 ? 1 : 7);
            }
        }
    }

    /** Twice ASIDE as much as STRENGTH is TRUE, one more is SWUNG; to both sides. */
    private static void swungAboveHalf() {
        for (int strip = 1; strip <= 8; strip++) {
            for (int side = 2; side <= 6; side += 4) {
                FellTree x = one(0, 0, 27, 3);
                Due.plan(x, 0, 0, strip, strip);
                x.lean(0, side, strip, 0);
                Due.is("10: twice ASIDE is as much as STRENGTH", x.goes(0, 4), 0);
                Due.is("10: the notch's WAY", x.goes(0, 5), 0);
                x.lean(0, side, strip + 1, 0);
                Due.is("10: twice ASIDE is above STRENGTH", x.goes(0, 4), 1);
                Due.is("10: one on", x.goes(0, 5), side == 2 ? 1 : 7);
            }
        }
        FellTree odd = one(0, 0, 27, 3);
        Due.plan(odd, 0, 0, 2, 3);
        odd.lean(0, 2, 1, 0);
        Due.is("10: ASIDE 2, STRENGTH 5", odd.goes(0, 4), 0);
        odd.lean(0, 2, 2, 0);
        Due.is("10: ASIDE 3, STRENGTH 5", odd.goes(0, 4), 1);
    }

    /** Of several the first told: SITS BACK, SPLITS, TORN OFF, SWUNG. */
    private static void howOfSeveral() {
        FellTree x = one(0, 0, 27, 3);
        x.lean(0, 1, 9, 0);
        Due.is("10: it is TORN OFF", x.goes(0, 4), 3);
        Due.wood(x, "split 32 t=0");
        Due.is("10: SPLITS ahead of TORN OFF", x.goes(0, 4), 4);
        Due.is("10: the notch's WAY", x.goes(0, 5), 0);
        x.lean(0, 3, 9, 0);
        Due.is("10: SITS BACK ahead of TORN OFF", x.goes(0, 4), 2);
        FellTree split = one(6, 9, 27, 3);
        Due.wood(split, "split 99 t=0");
        split.lean(0, 0, 4, 0);
        Due.is("10: FORWARD -1, SPLITS AT 0", split.goes(0, 4), 2);
        split.lean(0, 0, 5, 0);
        Due.is("10: FORWARD 1, SPLITS AT 0", split.goes(0, 4), 4);
        split.lean(0, 1, 9, 0);
        Due.is("10: FORWARD 0, SPLITS AT 0, ASIDE 9", split.goes(0, 4), 3);
    }

    /** The next WAY behind 7 is 0, the one ahead of 0 is 7; two on likewise. */
    private static void wayWraps() {
        int[][] due = {{7, 0, 1}, {6, 7, 0}, {0, 1, 2}};
        for (int[] row : due) {
            FellTree x = one(0, 0, 27, 3);
            Due.plan(x, 0, row[0], 0, 1);
            Due.is("10: SWUNG behind " + row[0], x.goes(0, 5), row[1]);
            Due.plan(x, 0, row[0], 0, 0);
            x.lean(0, row[1], 9, 0);
            Due.is("10: TORN OFF behind " + row[0], x.goes(0, 5), row[2]);
        }
        int[][] ahead = {{0, 7, 6}, {1, 0, 7}, {7, 6, 5}};
        for (int[] row : ahead) {
            FellTree x = one(0, 0, 27, 3);
            Due.plan(x, 0, row[0], 1, 0);
            Due.is("10: SWUNG ahead of " + row[0], x.goes(0, 5), row[1]);
            Due.plan(x, 0, row[0], 0, 0);
            x.lean(0, row[1], 9, 0);
            Due.is("10: TORN OFF ahead of " + row[0], x.goes(0, 5), row[2]);
        }
    }

    /** The most and the least that the numbers can come to. */
    private static void farthest() {
        FellTree x = one(0, 0, 27, 7);
        Due.wood(x, "rope 99;wedge 99");
        x.lean(0, 0, 9, 0);
        Due.plan(x, 0, 0, 0, 9, 9, 0, 9);
        Due.is("10: FORWARD at most", x.goes(0, 0), 18 + 891 + 1782);
        x.lean(0, 2, 9, 0);
        x.plan(0, 4, 2);
        Due.is("10: ASIDE at most", x.goes(0, 1), 9 + 9 + 891);
        FellTree swung = one(2, 9, 27, 7);
        Due.wood(swung, "rope 99");
        swung.lean(0, 2, 9, 0);
        Due.plan(swung, 0, 0, 0, 9, 0, 2, 9);
        Due.is("10: ASIDE of SWUNG at most", swung.goes(0, 1), 9 + 9 + 891 + 9);
        FellTree sat = one(3, 9, 27, 7);
        Due.wood(sat, "rope 99");
        sat.lean(0, 4, 9, 0);
        Due.plan(sat, 0, 0, 9, 0, 0, 4, 9);
        Due.is("10: FORWARD at least", sat.goes(0, 0), -18 - 1782 - 9);
        sat.lean(0, 6, 9, 0);
        sat.plan(0, 4, 6);
        Due.is("10: ASIDE at least", sat.goes(0, 1), -9 - 9 - 891);
    }

    /** As many PLACES as there are that WAY, from each PLACE, HEIGHT at most. */
    private static void placesToTheEdge() {
        int[] rows = {-1, -1, 0, 1, 1, 1, 0, -1}, columns = {0, 1, 1, 1, 0, -1, -1, -1};
        for (int place = 0; place < 64; place++) {
            for (int height = 1; height <= 7; height += 3) {
                FellTree x = one(0, 0, place, height);
                for (int way = 0; way < 8; way++) {
                    long due = 0;
                    for (int step = 1; step <= height; step++) {
                        int row = place / 8 + step * rows[way], column = place % 8 + step * columns[way];
                        due |= row >= 0 && row < 8 && column >= 0 && column < 8 ? 1L << 8 * row + column : 0;
                    }
                    x.plan(0, 0, way);
                    Due.is("11: lies " + place + " " + height + " " + way, x.lies(0), due);
                    Due.is("10: PLACES " + place + " " + height + " " + way, x.goes(0, 6), Long.bitCount(due));
                }
            }
        }
    }

    /** One that is STANDING at the next PLACE, at the last that it reaches, one behind that, and off THE FIELD's edge. */
    private static void hangsAtBothEnds() {
        int[][] due = {{25, 1, 0}, {30, 1, 5}, {31, -5, 6}, {23, -5, 6}, {32, -5, 6}};
        for (int[] row : due) {
            FellTree x = one(0, 0, 24, 6);
            x.tree(0, 0, row[0], 1);
            x.plan(0, 0, 2);
            Due.is("10: HANGS, one is on " + row[0], x.goes(0, 7), row[1]);
            Due.is("10: PLACES, one is on " + row[0], x.goes(0, 6), row[2]);
        }
        FellTree x = one(0, 0, 29, 7);
        x.plan(0, 0, 2);
        x.tree(0, 0, 32, 1);
        Due.is("10: the next row is not that WAY", x.goes(0, 7), -5);
        Due.is("10: PLACES", x.goes(0, 6), 2);
        FellTree split = one(0, 0, 24, 6);
        split.tree(0, 0, 30, 1);
        Due.wood(split, "split 40 t=0");
        Due.plan(split, 0, 2, 0, 0, 1);
        Due.is("10: SPLITS, one fewer", split.goes(0, 6), 5);
        Due.is("10: SPLITS, it does not reach", split.goes(0, 7), -5);
        split.tree(0, 0, 29, 1);
        Due.is("10: SPLITS, it HANGS on the last", split.goes(0, 7), 2);
        Due.is("12: fell", split.fell(2), 0);
        Due.is("10: none that has gone", split.goes(0, 7), -5);
        FellTree six = new FellTree();
        for (int tree = 0; tree < 6; tree++) {
            six.tree(0, 0, 40 + tree, 7);
        }
        six.plan(0, 0, 2);
        six.plan(5, 0, 6);
        Due.is("10: HANGS on the next of five", six.goes(0, 7), 1);
        Due.is("10: HANGS on the next of five", six.goes(5, 7), 4);
        for (int tree = 1; tree < 5; tree++) {
            six.fell(tree);
        }
        Due.is("10: HANGS on TREE 5", six.goes(0, 7), 5);
        Due.is("10: HANGS on TREE 0", six.goes(5, 7), 0);
        Due.is("10: PLACES of those that have gone", six.goes(5, 6), 4);
    }

    private static void goesTwoRefusals() {
        FellTree x = one(0, 0, 27, 1);
        x.fell(0);
        for (int what : Outside.of(0, 7)) {
            Due.is("10: what and STATE", x.goes(0, what), -10001);
            Due.is("10: tree and what", x.goes(1, what), -10001);
        }
        for (int tree : Outside.ofTrees(1)) {
            Due.is("10: tree " + tree, x.goes(tree, 0), -10001);
        }
        Due.is("10: STATE", x.goes(0, 0), -10002);
        Due.is("10: STATE", x.goes(0, 7), -10002);
    }

    private static void liesIsNothingOrNo() {
        FellTree x = one(0, 0, 3, 7);
        Due.is("11: off THE FIELD at once", x.lies(0), 0);
        x.lean(0, 4, 1, 0);
        Due.is("11: it SITS BACK", x.lies(0), 0);
        x.plan(0, 0, 4);
        Due.is("11: seven PLACES", x.lies(0), Due.places(11, 19, 27, 35, 43, 51, 59));
        Due.is("12: fell", x.fell(0), 0);
        Due.is("11: not STANDING", x.lies(0), FellTree.NO);
        for (int tree : Outside.ofTrees(1)) {
            Due.is("11: tree " + tree, x.lies(tree), FellTree.NO);
        }
        FellTree right = one(0, 0, 62, 1);
        right.plan(0, 0, 2);
        Due.is("11: PLACE 63 alone is the lowest long", right.lies(0), Long.MIN_VALUE);
        FellTree first = one(0, 0, 1, 1);
        first.plan(0, 0, 6);
        Due.is("11: PLACE 0 alone", first.lies(0), 1);
    }

    private static void fellTwice() {
        FellTree x = one(3, 1, 27, 1);
        Due.is("12: SITS BACK", x.fell(0), 2);
        Due.is("8: STANDING", x.of(0, 7), 1);
        Due.is("12: SITS BACK again", x.fell(0), 2);
        x.plan(0, 3, 1);
        Due.is("12: fell", x.fell(0), 0);
        Due.is("8: not STANDING", x.of(0, 7), 0);
        Due.is("12: STATE", x.fell(0), STATE);
        Due.is("8: not STANDING", x.of(0, 7), 0);
        for (int tree : Outside.ofTrees(1)) {
            Due.is("12: fell(" + tree + ")", x.fell(tree), NONE);
        }
        FellTree hangs = one(0, 0, 27, 3);
        hangs.tree(0, 0, 19, 1);
        Due.is("12: it HANGS, and has gone", hangs.fell(0), 0);
        Due.is("8: not STANDING", hangs.of(0, 7), 0);
        Due.is("8: the other is", hangs.of(1, 7), 1);
    }
}
