/** Promises 1 to 5: a new object, things, feed, wood, told. */
public final class FieldsAndWoodsTest {
    public static void main(String[] args) {
        newObject();
        things();
        feed();
        woodsAreNumberedAndFull();
        faults();
        faultKeepsTheOneThatHeld();
        opened();
        clausesAtMost();
        tapeToItsEnd();
        emptyTape();
        manyFaultsThenAWood();
        lettersAndRelations();
        joined();
        holdSplitAndWindTogether();
        newestWoodHolds();
        told();
        manyTexts();
        Due.end();
    }

    private static void newObject() {
        FellTree x = new FellTree();
        for (int what = 0; what <= 5; what++) {
            Due.is("1: count(" + what + ")", x.count(what), 0);
        }
        Due.is("1: told(0)", x.told(0), 3);
        Due.is("1: told(1)", x.told(1), 2);
        Due.is("1: told(2)", x.told(2), 0);
        Due.is("1: undo()", x.undo(), FellTree.STATE);
        Due.is("1: of(0, 0)", x.of(0, 0), FellTree.NONE);
        Due.is("1: goes(0, 0)", x.goes(0, 0), -10001);
        Due.is("1: trace(0)", x.trace(0), FellTree.NONE);
        Due.is("1: hung()", x.hung(), 0);
        Due.is("1: order(0)", x.order(0), -5);
        Due.is("1: judged(0)", x.judged(0), 0);
        Due.is("1: judged(1)", x.judged(1), -5);
        Due.is("1: things(0)", x.things(0), 0);
        Due.is("1: NONE", FellTree.NONE, -1);
        Due.is("1: BAD", FellTree.BAD, -2);
        Due.is("1: STATE", FellTree.STATE, -3);
        Due.is("1: FULL", FellTree.FULL, -4);
        Due.is("1: NO", FellTree.NO, Long.MIN_VALUE);
    }

    private static void things() {
        FellTree x = new FellTree();
        Due.is("2: things", x.things(Due.places(0, 5, 63)), 0);
        Due.is("2: things", x.things(-1L), 3);
        Due.is("2: things", x.things(Long.MIN_VALUE), 64);
        Due.is("2: things", x.things(0), 1);
        Due.is("2: things", x.things(0), 0);
    }

    private static void feed() {
        FellTree x = new FellTree();
        Due.is("3: feed(-1)", x.feed(-1), FellTree.BAD);
        Due.is("3: feed(128)", x.feed(128), FellTree.BAD);
        Due.is("3: feed(lowest)", x.feed(Integer.MIN_VALUE), FellTree.BAD);
        Due.is("3: count(3)", x.count(3), 0);
        Due.is("3: feed(0)", x.feed(0), 1);
        Due.is("3: feed(127)", x.feed(127), 2);
        for (int i = 3; i <= 100; i++) {
            Due.is("3: feed", x.feed('a'), i);
        }
        Due.is("3: feed beyond 100", x.feed('a'), FellTree.FULL);
        Due.is("3: BAD is told ahead of FULL", x.feed(128), FellTree.BAD);
        Due.is("3: count(3)", x.count(3), 100);
        Due.is("3: the tape begins with 0", x.wood(), -10);
        Due.is("3: feed", x.feed('a'), 1);
    }

    private static void woodsAreNumberedAndFull() {
        FellTree x = new FellTree();
        for (int i = 0; i < 5; i++) {
            Due.is("4: wood", Due.wood(x, "wedge " + i), i);
            Due.is("4: the tape is empty then", x.count(3), 0);
            Due.is("4: count(1)", x.count(1), i + 1);
            Due.is("4: told(0)", x.told(0), i);
        }
        Due.is("4: wood", Due.wood(x, "wedge 9"), FellTree.FULL);
        Due.is("4: the tape stays", x.count(3), 7);
        Due.is("4: FULL changes nothing", x.told(0), 4);
        Due.is("4: FULL", x.wood(), FellTree.FULL);
        Due.is("4: FULL with a fault too", Due.wood(x, "z"), FellTree.FULL);
        Due.is("4: the tape stays", x.count(3), 8);
    }

    private static void fault(String text, int fault) {
        FellTree x = new FellTree();
        Due.is("4: wood of '" + text + "'", Due.wood(x, text), -10 - fault);
        Due.is("4: the tape is empty then, '" + text + "'", x.count(3), 0);
        Due.is("4: no WOOD, '" + text + "'", x.count(1), 0);
    }

    private static void sound(String text) {
        Due.is("4: wood of '" + text + "'", Due.wood(new FellTree(), text), 0);
    }

    private static void faults() {
        fault("", 0);
        fault("x", 0);
        fault(";", 0);
        fault(" hold 1 t=1", 0);
        fault("Hold 1 t=1", 0);
        String whole = "hold 12 !(t=1)";
        for (int size = 0; size < whole.length(); size++) {
            fault(whole.substring(0, size), size);
        }
        sound(whole);
        fault("hole 1 t=1", 3);
        fault("splid 1 t=1", 4);
        fault("w", 1);
        fault("wa", 1);
        fault("wi", 2);
        fault("wid", 2);
        fault("wend", 2);
        fault("ropes", 4);
        fault("hold1", 4);
        fault("hold  1", 5);
        fault("hold -1 t=1", 5);
        fault("hold 00 t=1", 6);
        fault("hold 05 t=1", 6);
        fault("hold 100 t=1", 7);
        fault("hold 1;", 6);
        fault("hold 1  t=1", 7);
        fault("hold 1 T=1", 7);
        fault("hold 1 t~1", 8);
        fault("hold 1 t==1", 9);
        fault("hold 1 t=-1", 9);
        fault("hold 1 t=00", 10);
        fault("hold 1 t=07", 10);
        fault("hold 1 t=100", 11);
        fault("hold 1 t=1 ", 10);
        fault("hold 1 t=1;", 11);
        fault("hold 1 t=1;;", 11);
        fault("hold 1 t=1; hold 1 t=1", 11);
        fault("hold 1 t=1!", 10);
        fault("hold 1 t=1)", 10);
        fault("hold 1 t=1t", 10);
        fault("hold 1 t=1&", 11);
        fault("hold 1 t=1&|", 11);
        fault("hold 1 |t=1", 7);
        fault("hold 1 ()", 8);
        fault("hold 1 (t=1", 11);
        fault("hold 1 (t=1;", 11);
        fault("hold 1 (t=1))", 12);
        fault("hold 1 (t=1)t", 12);
        fault("wedge", 5);
        fault("wedge ", 6);
        fault("wedge 1 t=1", 7);
        fault("wedge 1&t=1", 7);
        fault("wedge 123", 8);
        fault("rope 1;", 7);
        fault("rope 1)", 6);
    }

    private static void faultKeepsTheOneThatHeld() {
        FellTree x = new FellTree();
        Due.wood(x, "wedge 7;rope 8;hold 4 t=0");
        Due.is("4: wood", Due.wood(x, "wedge 1;rope 1;hold 9 t=0;z"), -36);
        Due.is("4: told(0)", x.told(0), 7);
        Due.is("4: told(1)", x.told(1), 8);
        Due.is("4: count(1)", x.count(1), 1);
        x.tree(0, 0, 27, 3);
        x.plan(0, 1, 1);
        Due.is("4: HOLD", x.goes(0, 2), 5);
        Due.is("4: the next number", Due.wood(x, "rope 3"), 1);
    }

    private static void opened() {
        sound("hold 1 !!!!!t=1");
        fault("hold 1 !!!!!!t=1", 12);
        sound("hold 1 (((((t=1)))))");
        fault("hold 1 ((((((t=1", 12);
        sound("hold 1 !(!(!t=1))");
        fault("hold 1 !(!(!(t=1", 12);
        fault("hold 1 !(!(!!t=1", 12);
        sound("hold 1 !!!!!t=1&!!!!!t=2|(((((t=1)))))&!(!(!t=1))");
        sound("hold 1 (!!!!t=1|!!!!t=2)&!!!!!t=3");
        fault("hold 1 (!!!!t=1|!!!!!t=2)", 20);
        sound("hold 1 !(t=1)&((((!t=1))))");
        sound("hold 1 !!!!!t=1;hold 1 !!!!!t=1");
    }

    private static void clausesAtMost() {
        String nine = "rope 1;rope 1;rope 1;rope 1;rope 1;rope 1;rope 1;rope 1;rope 1";
        sound(nine);
        sound(nine + ";wedge 5");
        fault(nine + ";wedge 5;", 70);
        fault(nine + ";wedge 5;rope 2", 70);
        fault(nine + ";", 63);
    }

    private static void tapeToItsEnd() {
        StringBuilder text = new StringBuilder("hold 11 ");
        for (int i = 0; i < 22; i++) {
            text.append("t=1|");
        }
        Due.is("4: a text of 100 signs", text.length() + 4, 100);
        sound(text + "t=10");
        fault(text + "t=1&", 100);
        fault(text + "t=1)", 99);
    }

    private static void emptyTape() {
        FellTree x = new FellTree();
        Due.is("4: an empty tape is no WOOD", x.wood(), -10);
        Due.is("4: once more", x.wood(), -10);
        Due.is("4: count(1)", x.count(1), 0);
    }

    /** What was read of WOODS with a FAULT leaves nothing behind. */
    private static void manyFaultsThenAWood() {
        FellTree x = new FellTree();
        x.tree(0, 0, 27, 3);
        x.plan(0, 1, 1);
        StringBuilder text = new StringBuilder("wedge 8;hold 9 ");
        for (int i = 0; i < 21; i++) {
            text.append("t=0|");
        }
        for (int i = 0; i < 4; i++) {
            Due.is("4: wood", Due.wood(x, text.toString()), -109);
        }
        Due.is("4: wood", Due.wood(x, "hold 1 t=1;hold 4 t=0"), 0);
        Due.is("4: HOLD", x.goes(0, 2), 5);
        Due.is("5: wedge", x.told(0), 3);
    }

    /** HOLD of TREE 1 (KIND 4, HEIGHT 5, LEAN 6, HOLLOW 7, notch 3): STRIP is 1, so STRENGTH is HOLD. */
    private static int hold(String e) {
        FellTree x = new FellTree();
        x.tree(0, 0, 0, 1);
        x.tree(4, 2, 27, 5);
        x.lean(1, 2, 6, 7);
        Due.plan(x, 1, 3, 1, 0);
        Due.is("4: wood of '" + e + "'", Due.wood(x, "hold 9 " + e), 0);
        return x.goes(1, 2);
    }

    private static void lettersAndRelations() {
        String letters = "tkhlow";
        int[] values = {1, 4, 5, 6, 7, 3};
        for (int i = 0; i < 6; i++) {
            for (int n = 0; n <= 12; n++) {
                String letter = letters.substring(i, i + 1);
                Due.is("4: " + letter + "<" + n, hold(letter + "<" + n), values[i] < n ? 10 : 1);
                Due.is("4: " + letter + "=" + n, hold(letter + "=" + n), values[i] == n ? 10 : 1);
                Due.is("4: " + letter + ">" + n, hold(letter + ">" + n), values[i] > n ? 10 : 1);
            }
        }
    }

    private static void joined() {
        String yes = "t=1", no = "t=2";
        Due.is("4: & binds before |", hold(yes + "|" + yes + "&" + no), 10);
        Due.is("4: & binds before |", hold(no + "&" + yes + "|" + yes), 10);
        Due.is("4: ( )", hold("(" + yes + "|" + yes + ")&" + no), 1);
        Due.is("4: ( )", hold(no + "&(" + yes + "|" + yes + ")"), 1);
        Due.is("4: ! binds first", hold("!" + no + "|" + yes), 10);
        Due.is("4: ! binds first", hold("!" + yes + "|" + yes), 10);
        Due.is("4: ! binds first", hold("!" + no + "&" + no), 1);
        Due.is("4: !( )", hold("!(" + yes + "|" + no + ")"), 1);
        Due.is("4: !!", hold("!!" + yes), 10);
        Due.is("4: !!!", hold("!!!" + yes), 1);
        Due.is("4: a row of &", hold(yes + "&" + yes + "&" + yes + "&" + no), 1);
        Due.is("4: a row of &", hold(yes + "&" + yes + "&" + yes + "&" + yes), 10);
        Due.is("4: a row of |", hold(no + "|" + no + "|" + no + "|" + yes), 10);
        Due.is("4: a row of |", hold(no + "|" + no + "|" + no + "|" + no), 1);
        Due.is("4: nested", hold("!(t=2|!(k=4&!h>9))|t=5"), 10);
    }

    private static void holdSplitAndWindTogether() {
        FellTree x = new FellTree();
        x.tree(0, 0, 27, 2);
        x.plan(0, 1, 1);
        Due.wood(x, "hold 2 t=0;hold 3 t=1;hold 4 t<1;split 5 t=0;split 6 t=0;split 7 t=3");
        Due.is("4: HOLD", x.goes(0, 2), 7);
        Due.is("4: SPLITS AT", x.goes(0, 3), 29);
        Due.wood(x, "split 40 t=0");
        Due.is("4: SPLITS AT 0", x.goes(0, 3), 0);
        Due.is("4: no hold CLAUSES", x.goes(0, 2), 1);
        Due.wood(x, "split 39 t=0;split 2 t=0");
        Due.is("4: SPLITS AT, 0 at least", x.goes(0, 3), 0);
        Due.wood(x, "hold 0 t=0;split 0 t=0");
        Due.is("4: HOLD with 0", x.goes(0, 2), 1);
        Due.is("4: SPLITS AT with 0", x.goes(0, 3), 40);
    }

    private static void newestWoodHolds() {
        FellTree x = new FellTree();
        x.tree(0, 0, 27, 2);
        Due.plan(x, 0, 0, 1, 0, 2, 0, 1);
        Due.wood(x, "hold 2 t=0;wedge 1;rope 4");
        Due.is("4: HOLD", x.goes(0, 2), 3);
        Due.is("4: FORWARD", x.goes(0, 0), 10);
        Due.wood(x, "split 3 t=0");
        Due.is("4: HOLD of the newer", x.goes(0, 2), 1);
        Due.is("4: FORWARD of the newer", x.goes(0, 0), 10);
        Due.is("4: wedge of the newer", x.told(0), 3);
        Due.is("4: rope of the newer", x.told(1), 2);
    }

    private static void told() {
        FellTree x = new FellTree();
        Due.wood(x, "wedge 5;rope 6;wedge 99;rope 0");
        x.gusts(7);
        Due.is("5: told(0)", x.told(0), 99);
        Due.is("5: told(1)", x.told(1), 0);
        Due.is("5: told(2)", x.told(2), 7);
        Due.is("5: told(-1)", x.told(-1), FellTree.NONE);
        Due.is("5: told(3)", x.told(3), FellTree.NONE);
        Due.wood(x, "wedge 0");
        Due.is("5: told(0)", x.told(0), 0);
        Due.is("5: told(1)", x.told(1), 2);
    }

    /** WOODS with and without a FAULT, against a machine that reads sign by sign. */
    private static void manyTexts() {
        WoodTexts texts = new WoodTexts(new java.util.Random(4));
        for (int i = 0; i < 20000; i++) {
            String text = texts.next();
            text = text.substring(0, Math.min(100, text.length()));
            int fault = 0;
            while (fault < text.length() && Model.stateAfter(text.substring(0, fault + 1)) >= 0) {
                fault++;
            }
            boolean whole = fault == text.length() && Model.stateAfter(text) == 1;
            Due.is("4: wood of '" + text + "'", Due.wood(new FellTree(), text), whole ? 0 : -10 - fault);
        }
    }
}
