import java.util.ArrayList;
import java.util.List;
import java.util.function.Supplier;

/**
 * ==== 3: of several refusals the first one told, and they change nothing; nor does a call that only asks. Each call is
 * asked of an object of its own, which must look then as one that was never asked.
 */
public final class RefusalsTest {
    private interface Call {
        long on(FellTree x);
    }

    private static final int NONE = FellTree.NONE, BAD = FellTree.BAD, STATE = FellTree.STATE, FULL = FellTree.FULL;

    private final String name;
    private final Supplier<FellTree> ground;
    private final int trees;
    private final String untouched;

    private RefusalsTest(String name, Supplier<FellTree> ground) {
        this.name = name;
        this.ground = ground;
        trees = ground.get().count(0);
        untouched = Sight.of(ground.get());
    }

    public static void main(String[] args) {
        new RefusalsTest("new", FellTree::new).always();
        RefusalsTest busy = new RefusalsTest("busy", Grounds::busy);
        busy.always();
        busy.ofOneThatIs(0);
        busy.ofOneThatHasGone(1);
        busy.placesThatAreTaken();
        busy.questions();
        RefusalsTest full = new RefusalsTest("full", Grounds::full);
        full.always();
        full.ofOneThatIs(5);
        full.whenFull();
        full.questions();
        new RefusalsTest("new", FellTree::new).refused("29: undo()", STATE, x -> x.undo());
        actThatIsNone();
        Due.end();
    }

    private void refused(String call, long due, Call asked) {
        FellTree x = ground.get();
        Due.is(name + ", " + call, asked.on(x), due);
        Due.holds(name + ", " + call + " changes nothing", Sight.of(x).equals(untouched));
    }

    private void asks(String call, Call asked) {
        FellTree x = ground.get();
        asked.on(x);
        Due.holds(name + ", " + call + " changes nothing", Sight.of(x).equals(untouched));
    }

    /** Refusals that do not depend on what there is. */
    private void always() {
        for (int n : Outside.of(0, 127)) {
            refused("3: feed(" + n + ")", BAD, x -> x.feed(n));
        }
        for (int n : Outside.of(0, 2)) {
            refused("5: told(" + n + ")", NONE, x -> x.told(n));
        }
        for (int n : Outside.of(0, 10)) {
            refused("15: gusts(" + n + ")", BAD, x -> x.gusts(n));
        }
        for (int n : Outside.of(0, 4)) {
            refused("18: order(" + n + ")", NONE, x -> x.order(n));
        }
        for (int n : Outside.of(-1, 7)) {
            refused("23: book(" + n + ")", NONE, x -> x.book(n));
        }
        for (int n : Outside.of(0, 1)) {
            refused("24: judged(" + n + ")", NONE, x -> x.judged(n));
        }
        for (int n : Outside.of(0, 19)) {
            refused("26: trace(" + n + ")", NONE, x -> x.trace(n));
        }
        for (int n : Outside.of(0, 5)) {
            refused("30: count(" + n + ")", NONE, x -> x.count(n));
        }
        newTrees();
        for (int tree : Outside.ofTrees(trees)) {
            noSuchTree(tree);
        }
    }

    /** KIND and PLACE ahead of v and HEIGHT, those ahead of a PLACE that is taken and of FULL. */
    private void newTrees() {
        int[] places = {1, 27, 0};
        for (int place : places) {
            for (int n : Outside.of(0, 6)) {
                refused("6: kind " + n, NONE, x -> x.tree(n, 0, place, 1));
                refused("6: kind " + n + " ahead of v", NONE, x -> x.tree(n, 10, place, 1));
                refused("6: kind " + n + " ahead of height", NONE, x -> x.tree(n, 9, place, 8));
            }
            for (int n : Outside.of(0, 9)) {
                refused("6: v " + n, BAD, x -> x.tree(6, n, place, 7));
            }
            for (int n : Outside.of(1, 7)) {
                refused("6: height " + n, BAD, x -> x.tree(0, 0, place, n));
            }
        }
        for (int n : Outside.of(0, 63)) {
            refused("6: place " + n, NONE, x -> x.tree(0, 0, n, 1));
            refused("6: place " + n + " ahead of v", NONE, x -> x.tree(6, -1, n, 7));
            refused("6: place " + n + " ahead of height", NONE, x -> x.tree(6, 0, n, 0));
        }
    }

    private void noSuchTree(int tree) {
        String of = "(" + tree + ", ..)";
        refused("7: lean" + of, NONE, x -> x.lean(tree, 0, 0, 0));
        refused("7: lean" + of + " ahead of BAD", NONE, x -> x.lean(tree, 7, 10, 10));
        refused("8: of" + of, NONE, x -> x.of(tree, 7));
        refused("9: plan" + of, NONE, x -> x.plan(tree, 0, 0));
        refused("9: plan" + of + " ahead of BAD", NONE, x -> x.plan(tree, 5, 10));
        refused("10: goes" + of, -10001, x -> x.goes(tree, 4));
        refused("11: lies" + of, FellTree.NO, x -> x.lies(tree));
        refused("12: fell" + of, NONE, x -> x.fell(tree));
        refused("13: wide" + of, NONE, x -> x.wide(tree, 9));
        refused("13: wide" + of + " ahead of BAD", NONE, x -> x.wide(tree, 10));
        refused("14: least" + of, NONE, x -> x.least(tree, 0));
        refused("16: sure" + of, FellTree.NO, x -> x.sure(tree, 0, 0));
        refused("17: stand" + of, FellTree.NO, x -> x.stand(tree));
        refused("20: blame" + of, NONE, x -> x.blame(tree, 0));
        refused("21: knock" + of, NONE, x -> x.knock(tree, 0));
        refused("22: limbs" + of, NONE, x -> x.limbs(tree));
        refused("27: as" + of, NONE, x -> x.as(tree, 0));
    }

    /** Of a TREE, whether it is STANDING or not: what is told ahead of STATE. */
    private void ofOneThatIs(int tree) {
        String of = "(" + tree + ", ..";
        for (int n : Outside.of(0, 7)) {
            refused("7: lean" + of + "way " + n, NONE, x -> x.lean(tree, n, 1, 1));
            refused("7: lean" + of + "way " + n + " ahead of lean", NONE, x -> x.lean(tree, n, 10, 1));
            refused("7: lean" + of + "way " + n + " ahead of hollow", NONE, x -> x.lean(tree, n, 1, -1));
            refused("8: of" + of + n, NONE, x -> x.of(tree, n));
            refused("9: plan" + of + "notch " + n, BAD, x -> x.plan(tree, 0, n));
            refused("9: plan" + of + "rope " + n, BAD, x -> x.plan(tree, 4, n));
            refused("10: goes" + of + n, -10001, x -> x.goes(tree, n));
            refused("14: least" + of + n, NONE, x -> x.least(tree, n));
            refused("20: blame" + of + n, NONE, x -> x.blame(tree, n));
        }
        for (int n : Outside.of(0, 9)) {
            refused("7: lean" + of + "lean " + n, BAD, x -> x.lean(tree, 3, n, 1));
            refused("7: lean" + of + "hollow " + n, BAD, x -> x.lean(tree, 3, 1, n));
            refused("13: wide" + of + n, BAD, x -> x.wide(tree, n));
            for (int part : new int[] {1, 2, 3, 5}) {
                refused("9: plan" + of + part + ", " + n, BAD, x -> x.plan(tree, part, n));
            }
        }
        for (int n : Outside.of(0, 5)) {
            refused("9: plan" + of + "part " + n, NONE, x -> x.plan(tree, n, 1));
            refused("9: plan" + of + "part " + n + " ahead of BAD", NONE, x -> x.plan(tree, n, 10));
        }
        for (int n : Outside.of(0, 1)) {
            refused("16: sure" + of + "what " + n, FellTree.NO, x -> x.sure(tree, n, 0));
            refused("16: sure" + of + "part " + n, FellTree.NO, x -> x.sure(tree, 0, n));
        }
        for (int n : Outside.of(0, 4)) {
            refused("21: knock" + of + n, NONE, x -> x.knock(tree, n));
        }
        for (int n : Outside.of(0, 6)) {
            refused("27: as" + of + n, NONE, x -> x.as(tree, n));
        }
    }

    private void ofOneThatHasGone(int tree) {
        ofOneThatIs(tree);
        for (int what = 0; what < 8; what++) {
            int asked = what;
            refused("10: goes of one that has gone", -10002, x -> x.goes(tree, asked));
            refused("14: least of one that has gone", STATE, x -> x.least(tree, asked));
            refused("20: blame of one that has gone", STATE, x -> x.blame(tree, asked));
        }
        refused("11: lies of one that has gone", FellTree.NO, x -> x.lies(tree));
        refused("12: fell of one that has gone", STATE, x -> x.fell(tree));
        refused("13: wide of one that has gone", STATE, x -> x.wide(tree, 0));
        refused("13: wide of one that has gone", STATE, x -> x.wide(tree, 9));
        for (int what = 0; what < 2; what++) {
            int asked = what;
            refused("16: sure of one that has gone", FellTree.NO, x -> x.sure(tree, asked, 0));
            refused("16: sure of one that has gone", FellTree.NO, x -> x.sure(tree, asked, 1));
        }
        refused("17: stand of one that has gone", FellTree.NO, x -> x.stand(tree));
        for (int how = 0; how < 5; how++) {
            int asked = how;
            refused("21: knock of one that has gone", STATE, x -> x.knock(tree, asked));
        }
        refused("22: limbs of one that has gone", STATE, x -> x.limbs(tree));
        refused("27: a HUNG is no SWUNG, though it has gone", -6, x -> x.as(tree, 2));
    }

    private void placesThatAreTaken() {
        for (int place : new int[] {27, 29, 45, 63}) {
            refused("6: another has PLACE " + place, STATE, x -> x.tree(0, 0, place, 1));
        }
    }

    private void whenFull() {
        for (int sign : new int[] {0, 'a', 127}) {
            refused("3: feed(" + sign + ") is FULL", FULL, x -> x.feed(sign));
        }
        refused("4: wood() is FULL", FULL, x -> x.wood());
        refused("6: a seventh TREE is FULL", FULL, x -> x.tree(0, 0, 63, 1));
        refused("6: a seventh TREE is FULL", FULL, x -> x.tree(6, 9, 1, 7));
        for (int place = 0; place <= 50; place += 10) {
            int taken = place;
            refused("6: STATE ahead of FULL", STATE, x -> x.tree(0, 0, taken, 1));
        }
        for (int way = 0; way < 8; way++) {
            int told = way;
            refused("23: book(" + way + ") is FULL", FULL, x -> x.book(told));
        }
    }

    /** What only asks, with all that it may be asked. */
    private void questions() {
        asks("18: order", x -> x.order(4));
        asks("19: hung", x -> x.hung());
        asks("24: judged", x -> x.judged(1));
        for (int tree = 0; tree < trees; tree++) {
            int of = tree;
            asks("10: goes", x -> x.goes(of, 7));
            asks("11: lies", x -> x.lies(of));
            asks("13: wide", x -> x.wide(of, 9));
            asks("14: least", x -> x.least(of, 5));
            asks("16: sure", x -> x.sure(of, 1, 1));
            asks("17: stand", x -> x.stand(of));
            asks("20: blame", x -> x.blame(of, 2));
            asks("21: knock", x -> x.knock(of, 3));
            asks("22: limbs", x -> x.limbs(of));
            asks("27: as", x -> x.as(of, 0));
        }
        asks("5: told, 26: trace, 30: count", x -> x.told(0) + x.trace(0) + x.count(0));
    }

    /** An act that is none takes THE TRACE away, and that alone. */
    private static void actThatIsNone() {
        List<int[]> none = new ArrayList<>();
        for (int n : Outside.ofTrees(4)) {
            none.add(new int[] {n, 0});
            none.add(new int[] {n, 3});
        }
        for (int n : Outside.of(0, 2)) {
            none.add(new int[] {0, n});
            none.add(new int[] {1, n});
        }
        String untraced = null;
        for (int[] of : none) {
            FellTree x = Grounds.busy();
            Due.is("30: bodies ahead of it", x.count(4), 7);
            Due.is("25: act(" + of[0] + ", " + of[1] + ", 5)", x.act(of[0], of[1], 5), 0);
            Due.is("30: bodies", x.count(4), 0);
            Due.is("26: no TRACE", x.trace(0), NONE);
            String seen = Sight.of(x);
            untraced = untraced == null ? seen : untraced;
            Due.holds("25: the same is left", seen.equals(untraced));
        }
        String traced = Sight.of(Grounds.busy());
        int end = traced.indexOf("count 0");
        Due.holds("25: all else is as it was", untraced.endsWith(traced.substring(end)));
    }
}
