/**
 * All that can be seen of an object, as one text, so that two of them can be compared. The object is used up by it:
 * its PLANS, its TAPE and its THINGS are read by changing them, and at the end it goes back to its IMAGE.
 */
final class Sight {
    private final FellTree x;
    private final StringBuilder text = new StringBuilder();

    private Sight(FellTree x) {
        this.x = x;
    }

    static String of(FellTree x) {
        Sight sight = new Sight(x);
        sight.trace();
        sight.asked();
        sight.trees(true);
        sight.taken();
        return sight.text.toString();
    }

    private void add(String call, long answer) {
        text.append(call).append(' ').append(answer).append('\n');
    }

    private void trace() {
        add("bodies", x.count(4));
        for (int i = 0; i < 8; i++) {
            add("trace", x.trace(i));
        }
    }

    private void asked() {
        for (int what = 0; what < 6; what++) {
            add("count " + what, what == 4 ? 0 : x.count(what));
        }
        for (int what = 0; what < 3; what++) {
            add("told " + what, x.told(what));
        }
        for (int k = 0; k < 5; k++) {
            add("order " + k, x.order(k));
        }
        add("hung", x.hung());
        add("judged 0", x.judged(0));
        add("judged 1", x.judged(1));
    }

    private void trees(boolean closely) {
        int trees = x.count(0);
        for (int tree = 0; tree < trees; tree++) {
            for (int what = 0; what < 8; what++) {
                add(tree + " of " + what, x.of(tree, what));
                if (closely) {
                    add(tree + " goes " + what, x.goes(tree, what));
                }
            }
            if (closely) {
                add(tree + " lies", x.lies(tree));
                add(tree + " stand", x.stand(tree));
                add(tree + " sure", x.sure(tree, 0, 0));
                add(tree + " harm", x.sure(tree, 1, 0));
                add(tree + " wide", x.wide(tree, 4));
            }
            for (int part = 0; part < 6; part++) {
                add(tree + " plan " + part, x.plan(tree, part, 0));
            }
        }
    }

    private void taken() {
        add("things", x.things(0));
        add("wood", x.wood());
        add("wedge", x.told(0));
        add("rope", x.told(1));
        add("undo", x.undo());
        for (int what = 0; what < 6; what++) {
            add("count " + what, what == 4 ? 0 : x.count(what));
        }
        add("gusts", x.told(2));
        add("wedge", x.told(0));
        trees(false);
        add("things", x.things(0));
        add("wood", x.wood());
        add("wedge", x.told(0));
        add("rope", x.told(1));
    }
}
