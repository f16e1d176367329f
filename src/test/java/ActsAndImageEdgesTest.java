import java.util.ArrayList;
import java.util.List;

/** Promises 25 to 30, and how long an object is used: at their bounds. */
public final class ActsAndImageEdgesTest {
    private static final int NONE = FellTree.NONE, STATE = FellTree.STATE;
    private static final int[] FAR = {0, 1, -1, 2, 715827882, 715827883, -715827883, 1 << 30, Integer.MAX_VALUE,
        Integer.MAX_VALUE - 9, Integer.MIN_VALUE, Integer.MIN_VALUE + 9};

    public static void main(String[] args) {
        actsWrap();
        noSuchAct();
        answersOfNothing();
        traceAtBothEnds();
        traceOfTheLatest();
        asEachKind();
        asTwoRefusals();
        imageOfNothing();
        undoWithoutOne();
        imageOfAll();
        undoOften();
        undoGivesRoom();
        undoKeepsTheTrace();
        imageOfAFault();
        countsAtMost();
        countRefused();
        fiveHundredAndTwelveCalls();
        Due.end();
    }

    private static int cut(long n) {
        return (int) n;
    }

    /** leans as the document says, with room enough not to wrap, cut to an int where it stands as one. */
    private static int leans(int kind, int i, int x) {
        if (kind == 1 || kind == 4) {
            return cut(cut(3L * x) + (long) i);
        }
        int sum = cut((long) x + i);
        return kind == 5 ? sum ^ i : sum;
    }

    private static int holds(int kind, int i, int v, int x) {
        int less = cut((long) leans(kind, i, x) - v);
        if (kind == 2 || kind == 5) {
            return cut(-(long) less);
        }
        return kind == 6 ? cut((long) less + v) : less;
    }

    private static int tells(int kind, int i, int v, int x) {
        if (kind == 4) {
            int below = cut(2L * holds(kind, i, v, cut(x - 1L)));
            return cut((long) below + leans(kind, i, 2));
        }
        int twice = cut(2L * holds(kind, i, v, x));
        return kind == 3 || kind == 6 ? twice ^ 7 : twice;
    }

    /** ints, wrapping: each KIND and ACT with the farthest x. */
    private static void actsWrap() {
        for (int kind = 0; kind <= 6; kind++) {
            for (int v = 0; v <= 9; v += 9) {
                FellTree x = new FellTree();
                for (int tree = 0; tree < 6; tree++) {
                    x.tree(kind, v, tree, 1);
                }
                for (int far : FAR) {
                    for (int tree = 0; tree < 6; tree += 5) {
                        String of = kind + " " + v + " of " + tree + " with " + far;
                        Due.is("25: leans " + of, x.act(tree, 0, far), leans(kind, tree, far));
                        Due.is("25: holds " + of, x.act(tree, 1, far), holds(kind, tree, v, far));
                        Due.is("25: tells " + of, x.act(tree, 2, far), tells(kind, tree, v, far));
                    }
                }
            }
        }
    }

    private static void noSuchAct() {
        FellTree x = new FellTree();
        Due.is("25: no TREE yet", x.act(0, 0, 5), 0);
        Due.is("30: no bodies", x.count(4), 0);
        x.tree(0, 0, 0, 1);
        for (int act : Outside.of(0, 2)) {
            Due.is("25: act", x.act(0, 0, 5), 5);
            Due.is("25: act " + act, x.act(0, act, 5), 0);
            Due.is("26: no TRACE", x.trace(0), NONE);
            Due.is("30: no bodies", x.count(4), 0);
        }
        for (int tree : Outside.ofTrees(1)) {
            Due.is("25: act", x.act(0, 2, 5), 10);
            Due.is("25: tree " + tree, x.act(tree, 2, 5), 0);
            Due.is("26: no TRACE", x.trace(0), NONE);
            Due.is("30: no bodies", x.count(4), 0);
        }
    }

    /** An answer of 0 that is one leaves a TRACE. */
    private static void answersOfNothing() {
        FellTree x = new FellTree();
        x.tree(0, 0, 0, 1);
        for (int act = 0; act < 3; act++) {
            Due.is("25: 0", x.act(0, act, 0), 0);
            Due.is("30: bodies", x.count(4), act + 1);
            Due.is("26: trace", x.trace(0), act + 1);
            Due.is("26: trace", x.trace(act), 1);
        }
    }

    private static void traceAtBothEnds() {
        FellTree x = new FellTree();
        for (int i : Outside.of(0, 19)) {
            Due.is("26: nothing yet, trace(" + i + ")", x.trace(i), NONE);
        }
        Due.is("26: nothing yet", x.trace(0), NONE);
        x.tree(4, 5, 0, 1);
        x.act(0, 2, 0);
        int[] longest = {41, 3, 2, 11, 1, 11, 1};
        for (int i = 0; i < 7; i++) {
            Due.is("26: trace(" + i + ")", x.trace(i), longest[i]);
        }
        for (int i = 7; i <= 21; i++) {
            Due.is("26: trace(" + i + ")", x.trace(i), NONE);
        }
        for (int i : Outside.of(0, 6)) {
            Due.is("26: trace(" + i + ")", x.trace(i), NONE);
        }
        Due.is("30: bodies", x.count(4), 7);
    }

    /** Of the latest act alone: nothing is left of a longer one, and nothing is added up. */
    private static void traceOfTheLatest() {
        FellTree x = new FellTree();
        x.tree(4, 5, 0, 1);
        x.tree(0, 0, 1, 1);
        for (int i = 0; i < 30; i++) {
            x.act(0, 2, i);
            Due.is("30: bodies", x.count(4), 7);
        }
        x.act(1, 0, 0);
        Due.is("30: bodies", x.count(4), 1);
        Due.is("26: trace(0)", x.trace(0), 1);
        Due.is("26: trace(1)", x.trace(1), NONE);
        Due.is("26: trace(6)", x.trace(6), NONE);
    }

    private static void asEachKind() {
        int[] above = {-1, 0, 0, 0, 1, 2, 3};
        for (int kind = 0; kind <= 6; kind++) {
            for (int v = 0; v <= 9; v += 9) {
                FellTree x = new FellTree();
                x.tree(kind, v, 0, 1);
                for (int k = 0; k <= 6; k++) {
                    boolean is = k == kind || k == above[kind] || k == 0;
                    Due.is("27: " + kind + " as " + k, x.as(0, k), is ? v : -6);
                }
            }
        }
    }

    private static void asTwoRefusals() {
        FellTree x = new FellTree();
        x.tree(1, 4, 0, 1);
        for (int k : Outside.of(0, 6)) {
            Due.is("27: k " + k, x.as(0, k), NONE);
            Due.is("27: tree and k", x.as(1, k), NONE);
        }
        for (int tree : Outside.ofTrees(1)) {
            Due.is("27: tree " + tree, x.as(tree, 1), NONE);
            Due.is("27: tree ahead of another KIND", x.as(tree, 6), NONE);
        }
        Due.is("27: another KIND", x.as(0, 6), -6);
    }

    private static void imageOfNothing() {
        FellTree x = new FellTree();
        Due.is("28: image", x.image(), 0);
        for (int tree = 0; tree < 6; tree++) {
            x.tree(tree, 1, tree, 1);
        }
        Due.wood(x, "wedge 9;rope 9");
        x.feed('a');
        x.gusts(10);
        x.book(1);
        x.things(-1);
        Due.is("29: undo", x.undo(), 0);
        int[] due = {0, 0, 0, 0, 0, 0};
        for (int what = 0; what < 6; what++) {
            Due.is("29: count(" + what + ")", x.count(what), due[what]);
        }
        Due.is("29: wedge", x.told(0), 3);
        Due.is("29: rope", x.told(1), 2);
        Due.is("29: odds", x.told(2), 0);
        Due.is("29: THINGS", x.things(0), 0);
        Due.is("29: no TREE", x.of(0, 0), NONE);
        Due.is("29: the first number", x.tree(0, 0, 5, 1), 0);
    }

    private static void undoWithoutOne() {
        FellTree x = new FellTree();
        x.tree(0, 0, 9, 1);
        x.gusts(3);
        for (int i = 0; i < 3; i++) {
            Due.is("29: there is none", x.undo(), STATE);
            Due.is("29: nothing has changed", x.count(0), 1);
            Due.is("29: nothing has changed", x.told(2), 3);
        }
        Due.is("28: image", x.image(), 1);
        Due.is("29: undo", x.undo(), 1);
    }

    private static void imageOfAll() {
        FellTree x = Grounds.full();
        Due.is("28: image of six", x.image(), 6);
        FellTree y = Grounds.full();
        y.image();
        String before = Sight.of(y);
        x.lean(0, 7, 9, 9);
        x.fell(1);
        x.plan(5, 5, 9);
        x.book(-1);
        x.gusts(1);
        x.things(7);
        Due.is("29: undo", x.undo(), 6);
        Due.holds("29: all is as THE IMAGE", Sight.of(x).equals(before));
    }

    private static void undoOften() {
        FellTree x = new FellTree();
        x.tree(0, 0, 9, 1);
        x.image();
        for (int i = 0; i < 20; i++) {
            Due.is("12: fell", x.fell(0), 0);
            Due.is("6: tree", x.tree(1, 1, 10, 1), 1);
            Due.is("29: undo", x.undo(), 1);
            Due.is("29: undo once more", x.undo(), 1);
            Due.is("29: STANDING", x.of(0, 7), 1);
        }
        Due.is("12: fell", x.fell(0), 0);
        Due.is("28: the newer one", x.image(), 1);
        Due.is("29: undo", x.undo(), 1);
        Due.is("29: not STANDING, as in the newer one", x.of(0, 7), 0);
    }

    /** Behind an undo there is room again for as many as there was, and for no more. */
    private static void undoGivesRoom() {
        FellTree x = new FellTree();
        for (int tree = 0; tree < 5; tree++) {
            x.tree(0, 0, tree, 1);
            x.book(tree);
        }
        for (int sign = 0; sign < 99; sign++) {
            x.feed('a');
        }
        x.image();
        for (int round = 0; round < 3; round++) {
            Due.is("6: the sixth", x.tree(0, 0, 60, 1), 5);
            Due.is("6: FULL", x.tree(0, 0, 61, 1), FellTree.FULL);
            Due.is("23: the sixth", x.book(7), 6);
            Due.is("23: FULL", x.book(7), FellTree.FULL);
            Due.is("3: the 100th", x.feed(0), 100);
            Due.is("3: FULL", x.feed(0), FellTree.FULL);
            Due.is("29: undo", x.undo(), 5);
        }
    }

    private static void undoKeepsTheTrace() {
        FellTree x = new FellTree();
        x.tree(4, 0, 0, 1);
        x.act(0, 0, 1);
        x.image();
        x.act(0, 2, 1);
        x.undo();
        Due.is("29: THE TRACE is the latest act's", x.count(4), 7);
        Due.is("29: THE TRACE is the latest act's", x.trace(0), 41);
        x.image();
        Due.is("28: THE TRACE stays", x.count(4), 7);
        x.act(9, 0, 1);
        x.undo();
        Due.is("29: no TRACE stays none", x.count(4), 0);
        Due.is("29: no TRACE stays none", x.trace(0), NONE);
    }

    /** THE TAPE of THE IMAGE is read from its first sign on, whatever was fed or read since. */
    private static void imageOfAFault() {
        FellTree x = new FellTree();
        Grounds.feed(x, "rope 1;");
        x.image();
        Due.is("4: FAULT", x.wood(), -17);
        Due.is("4: another", Due.wood(x, "wedge 99"), 0);
        x.undo();
        Due.is("29: no WOOD", x.count(1), 0);
        Due.is("29: THE TAPE", x.count(3), 7);
        Due.is("4: FAULT again", x.wood(), -17);
        x.undo();
        Due.is("4: it goes on", Due.wood(x, "wedge 9"), 0);
        Due.is("5: rope", x.told(1), 1);
        Due.is("5: wedge", x.told(0), 9);
    }

    private static void countsAtMost() {
        FellTree x = Grounds.full();
        int[] due = {6, 5, 6, 100, 0, 6};
        for (int what = 0; what < 6; what++) {
            Due.is("30: count(" + what + ")", x.count(what), due[what]);
        }
        x.act(4, 2, 0);
        Due.is("30: bodies", x.count(4), 7);
        for (int tree = 0; tree < 6; tree++) {
            x.lean(tree, 0, 9, 0);
            Due.plan(x, tree, 0, 0, 0);
            Due.holds("12: it goes", x.fell(tree) >= 0);
            Due.is("30: STANDING", x.count(5), 5 - tree);
        }
        Due.is("30: TREES", x.count(0), 6);
    }

    private static void countRefused() {
        FellTree x = new FellTree();
        for (int what : Outside.of(0, 5)) {
            Due.is("30: what " + what, x.count(what), NONE);
        }
    }

    /** What it is: the 512th call answers as any other, whatever the calls ahead of it were. */
    private static void fiveHundredAndTwelveCalls() {
        FellTree fed = new FellTree();
        for (int call = 1; call <= 511; call++) {
            Due.is("3: feed", fed.feed('r'), call <= 100 ? call : FellTree.FULL);
        }
        Due.is("4: the 512th call", fed.wood(), -11);
        FellTree acted = new FellTree();
        acted.tree(4, 9, 5, 1);
        for (int call = 2; call <= 511; call++) {
            acted.act(0, 2, call);
        }
        Due.is("30: the 512th call", acted.count(4), 7);
        FellTree taken = new FellTree();
        taken.tree(4, 9, 5, 1);
        for (int call = 2; call <= 511; call++) {
            Due.is("28, 29: image, undo", call % 2 == 0 ? taken.image() : taken.undo(), 1);
        }
        Due.is("8: the 512th call", taken.of(0, 1), 9);
        List<Long> first = new ArrayList<>(), last = new ArrayList<>();
        FellTree asked = Grounds.full();
        dear(asked, first);
        for (int round = 0; round < 3; round++) {
            last.clear();
            dear(asked, last);
            Due.holds("13, 14, 16, 17: the same again", last.equals(first));
        }
    }

    private static void dear(FellTree x, List<Long> answers) {
        for (int tree = 0; tree < 6; tree++) {
            answers.add((long) x.wide(tree, 9));
            answers.add((long) x.least(tree, 4));
            answers.add(x.sure(tree, 0, 0));
            answers.add(x.stand(tree));
            answers.add((long) x.knock(tree, 3));
            answers.add((long) x.limbs(tree));
        }
    }
}
