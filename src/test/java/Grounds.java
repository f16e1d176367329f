/** Objects to begin with: each call makes the same one anew. */
final class Grounds {
    private Grounds() {
    }

    /**
     * Four TREES, of which 1 has gone and 3 SITS BACK; a WOOD, signs of THE TAPE, a BOOK, THINGS, GUSTS, a TRACE
     * of the longest kind, an IMAGE of a time with two TREES.
     */
    static FellTree busy() {
        FellTree x = new FellTree();
        x.tree(0, 3, 27, 5);
        x.tree(4, 4, 29, 3);
        x.things(Due.places(0, 63));
        Due.wood(x, "rope 5;hold 2 t<9;wind 3 w>3");
        feed(x, "wedge 8");
        x.gusts(2);
        x.book(6);
        x.image();
        x.tree(5, 5, 45, 6);
        x.tree(3, 9, 63, 2);
        x.lean(0, 2, 4, 3);
        x.lean(2, 7, 9, 2);
        Due.plan(x, 0, 2, 3, 4, 1, 1, 2);
        Due.plan(x, 1, 6, 1, 1, 1, 6, 1);
        Due.plan(x, 2, 7, 2, 9, 3, 5, 1);
        x.things(Due.places(18, 28, 36, 63));
        x.gusts(5);
        Due.wood(x, "wedge 4");
        feed(x, "rope 7");
        x.book(2);
        x.book(7);
        Due.is("12: fell", x.fell(1), 0);
        x.act(1, 2, 5);
        return x;
    }

    /** Six TREES, five WOODS, 100 signs of THE TAPE, six WAYS of the BOOK; an IMAGE of a time with one TREE. */
    static FellTree full() {
        FellTree x = new FellTree();
        x.tree(6, 9, 0, 7);
        Due.wood(x, "rope 9");
        x.image();
        for (int tree = 1; tree < 6; tree++) {
            x.tree(tree, tree, 10 * tree, 7);
            x.lean(tree, tree, tree, tree);
            x.plan(tree, 0, tree);
            x.plan(tree, 1, tree);
        }
        for (int wood = 1; wood < 5; wood++) {
            Due.wood(x, "rope " + wood);
        }
        for (int way = 0; way < 6; way++) {
            x.book(way);
        }
        fillTape(x);
        return x;
    }

    static void feed(FellTree x, String text) {
        for (int i = 0; i < text.length(); i++) {
            x.feed(text.charAt(i));
        }
    }

    static void fillTape(FellTree x) {
        for (int i = x.count(3); i < 100; i++) {
            x.feed('a');
        }
    }
}
