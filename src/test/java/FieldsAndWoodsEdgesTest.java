/** Promises 1 to 5 and what 'Terms' says of THE TAPE and WOODS: the first and the last that is allowed, and the next. */
public final class FieldsAndWoodsEdgesTest {
    private static final int NONE = FellTree.NONE, FULL = FellTree.FULL;
    private static final String[] WITH_E = {"hold", "split", "wind"}, WITHOUT = {"wedge", "rope"};

    public static void main(String[] args) {
        nothingAtFirst();
        objectsShareNothing();
        thingsAtBothEnds();
        signsAtBothEnds();
        tapeFull();
        woodsFull();
        woodsFullWithAnyTape();
        faultsAreNoWoods();
        numbersOfClauses();
        numbersOfTests();
        blanks();
        tenClauses();
        fiveOpen();
        openOnesEnd();
        endsTooEarly();
        everySignEverywhere();
        aHundredSigns();
        theLastOneCounts();
        splitsAtNothing();
        withoutAWood();
        toldAtBothEnds();
        Due.end();
    }

    private static void nothingAtFirst() {
        FellTree x = new FellTree();
        for (int tree = 0; tree < 6; tree++) {
            Due.is("1: of", x.of(tree, 0), NONE);
            Due.is("1: lean", x.lean(tree, 0, 0, 0), NONE);
            Due.is("1: plan", x.plan(tree, 0, 0), NONE);
            Due.is("1: goes", x.goes(tree, 0), -10001);
            Due.is("1: lies", x.lies(tree), FellTree.NO);
            Due.is("1: fell", x.fell(tree), NONE);
            Due.is("1: wide", x.wide(tree, 0), NONE);
            Due.is("1: least", x.least(tree, 0), NONE);
            Due.is("1: sure", x.sure(tree, 0, 1), FellTree.NO);
            Due.is("1: stand", x.stand(tree), FellTree.NO);
            Due.is("1: blame", x.blame(tree, 0), NONE);
            Due.is("1: knock", x.knock(tree, 0), NONE);
            Due.is("1: limbs", x.limbs(tree), NONE);
            Due.is("1: act", x.act(tree, 0, 7), 0);
            Due.is("1: as", x.as(tree, 0), NONE);
        }
        for (int k = 0; k < 5; k++) {
            Due.is("1: order(" + k + ")", x.order(k), -5);
        }
        Due.is("1: hung", x.hung(), 0);
        for (int i = 0; i < 20; i++) {
            Due.is("1: trace(" + i + ")", x.trace(i), NONE);
        }
        Due.is("1: undo", x.undo(), FellTree.STATE);
        Due.is("1: image", x.image(), 0);
        Due.is("1: undo", x.undo(), 0);
        for (int what = 0; what < 6; what++) {
            Due.is("1: count(" + what + ")", x.count(what), 0);
        }
    }

    private static void objectsShareNothing() {
        String atFirst = Sight.of(new FellTree());
        FellTree early = new FellTree();
        FellTree full = Grounds.full();
        FellTree busy = Grounds.busy();
        Due.holds("1: one that was made ahead of others", Sight.of(early).equals(atFirst));
        Due.holds("1: one that is made behind others", Sight.of(new FellTree()).equals(atFirst));
        Due.is("1: the others are as they were", full.count(0), 6);
        Due.is("1: the others are as they were", busy.count(0), 4);
        Due.is("1: the others are as they were", full.count(1), 5);
    }

    private static void thingsAtBothEnds() {
        FellTree x = new FellTree();
        Due.is("2: none at first", x.things(0), 0);
        for (int place = 0; place < 64; place++) {
            Due.is("2: one", x.things(1L << place), place == 0 ? 0 : 1);
        }
        Due.is("2: PLACE 63 alone", x.things(Long.MIN_VALUE), 1);
        Due.is("2: PLACE 63 alone", x.things(Long.MAX_VALUE), 1);
        Due.is("2: all but 63", x.things(-1), 63);
        Due.is("2: all", x.things(-2), 64);
        Due.is("2: all but 0", x.things(0), 63);
        Due.is("2: none", x.things(1), 0);
        Due.is("2: the same again", x.things(1), 1);
        strikes(8, 0, 0);
        strikes(55, 4, 63);
    }

    /** A TREE of HEIGHT 1 goes from a PLACE a WAY, and STRIKES if the next PLACE is one of THINGS. */
    private static void strikes(int from, int way, int next) {
        FellTree x = new FellTree();
        x.tree(0, 0, from, 1);
        x.plan(0, 0, way);
        x.things(1L << next);
        Due.is("2: STRIKES " + next, x.sure(0, 1, 0), 1);
        x.things(~(1L << next));
        Due.is("2: STRIKES all but " + next, x.sure(0, 1, 0), 0);
        x.things(0);
        Due.is("2: STRIKES none", x.sure(0, 1, 0), 0);
    }

    private static void signsAtBothEnds() {
        for (int from = 0; from < 128; from += 64) {
            FellTree x = new FellTree();
            for (int i = 0; i < 64; i++) {
                Due.is("3: feed(" + (from + i) + ")", x.feed(from + i), i + 1);
            }
        }
        FellTree x = new FellTree();
        for (int sign : Outside.of(0, 127)) {
            Due.is("3: feed(" + sign + ")", x.feed(sign), FellTree.BAD);
            Due.is("3: count(3)", x.count(3), 0);
        }
        Due.is("3: feed(0)", x.feed(0), 1);
        Due.is("3: feed(127)", x.feed(127), 2);
    }

    private static void tapeFull() {
        FellTree x = new FellTree();
        StringBuilder text = new StringBuilder("rope 55;hold 19 t=9");
        while (text.length() < 99) {
            text.append("|o>5");
        }
        text.append('0');
        Grounds.feed(x, text.substring(0, 99));
        Due.is("3: the 99th", x.count(3), 99);
        Due.is("3: the 100th", x.feed(text.charAt(99)), 100);
        for (int sign : new int[] {0, ';', 'a', 127}) {
            Due.is("3: the 101st", x.feed(sign), FULL);
        }
        for (int sign : Outside.of(0, 127)) {
            Due.is("3: BAD ahead of FULL", x.feed(sign), FellTree.BAD);
        }
        Due.is("3: 100 still", x.count(3), 100);
        Due.is("4: what was refused is not read", x.wood(), 0);
        Due.is("5: rope", x.told(1), 55);
        Due.is("3: empty then", x.count(3), 0);
        Due.is("3: the first again", x.feed('a'), 1);
    }

    private static void woodsFull() {
        FellTree x = new FellTree();
        for (int wood = 0; wood < 5; wood++) {
            Due.is("4: the number", Due.wood(x, "rope " + (10 + wood)), wood);
        }
        Due.is("4: FULL", Due.wood(x, "rope 90"), FULL);
        Due.is("4: THE TAPE stays", x.count(3), 7);
        Due.is("4: the newest holds", x.told(1), 14);
        Due.is("4: five still", x.count(1), 5);
        Due.is("4: FULL again", x.wood(), FULL);
        Due.is("4: signs come behind", x.feed('0'), 8);
    }

    /** THE TAPE stays, sign by sign: it is read, as soon as there is room. */
    private static void woodsFullWithAnyTape() {
        FellTree x = new FellTree();
        for (int wood = 0; wood < 4; wood++) {
            Due.wood(x, "rope " + wood);
        }
        Due.is("28: image", x.image(), 0);
        Due.is("4: the fifth", Due.wood(x, "rope 4"), 4);
        Due.is("4: FULL with an empty TAPE", x.wood(), FULL);
        Due.is("4: FULL with a FAULT", Due.wood(x, "zz"), FULL);
        Due.is("4: THE TAPE stays", x.count(3), 2);
        Due.is("29: undo", x.undo(), 0);
        Due.is("29: THE TAPE of then", x.count(3), 0);
        Due.is("4: the fifth once more", Due.wood(x, "wedge 4"), 4);
        Due.is("4: FULL", x.wood(), FULL);
    }

    private static void faultsAreNoWoods() {
        FellTree x = new FellTree();
        for (int i = 0; i < 7; i++) {
            Due.is("4: FAULT", Due.wood(x, "rope 1;"), -17);
            Due.is("4: no WOOD", x.count(1), 0);
            Due.is("4: the TAPE is empty", x.count(3), 0);
            Due.is("4: none holds", x.told(1), 2);
        }
        for (int wood = 0; wood < 5; wood++) {
            Due.is("4: FAULT", Due.wood(x, "!"), -10);
            Due.is("4: the number", Due.wood(x, "rope 7"), wood);
        }
    }

    private static void wood(String text, int due) {
        Due.is("4: wood of '" + text + "'", Due.wood(new FellTree(), text), due);
    }

    /** n: 0 to 99, one digit or two, no 0 ahead of another. */
    private static void numbersOfClauses() {
        for (String word : WITH_E) {
            int at = word.length() + 1;
            for (String n : new String[] {"0", "1", "9", "10", "90", "99"}) {
                wood(word + " " + n + " t=1", 0);
            }
            wood(word + " 00 t=1", -11 - at);
            wood(word + " 01 t=1", -11 - at);
            wood(word + " 09 t=1", -11 - at);
            wood(word + " 100 t=1", -12 - at);
            wood(word + " 990 t=1", -12 - at);
            wood(word + "  t=1", -10 - at);
            wood(word + " -1 t=1", -10 - at);
            wood(word + " +1 t=1", -10 - at);
            wood(word + " /0 t=1", -10 - at);
            wood(word + " :0 t=1", -10 - at);
            wood(word + " 1/ t=1", -11 - at);
            wood(word + " 1: t=1", -11 - at);
        }
        for (String word : WITHOUT) {
            int at = word.length() + 1;
            for (int n : new int[] {0, 1, 9, 10, 99}) {
                FellTree x = new FellTree();
                Due.is("4: " + word + " " + n, Due.wood(x, word + " " + n), 0);
                Due.is("5: " + word + " " + n, x.told(word.equals("wedge") ? 0 : 1), n);
            }
            wood(word + " 00", -11 - at);
            wood(word + " 01", -11 - at);
            wood(word + " 100", -12 - at);
            wood(word + " ", -10 - at);
            wood(word + " 1 ", -11 - at);
            wood(word + " 1 t=1", -11 - at);
        }
    }

    private static void numbersOfTests() {
        for (char letter : "tkhlow".toCharArray()) {
            for (char sign : "<=>".toCharArray()) {
                String test = "hold 1 " + letter + sign;
                wood(test + "0", 0);
                wood(test + "9", 0);
                wood(test + "10", 0);
                wood(test + "99", 0);
                wood(test, -19);
                wood(test + "00", -20);
                wood(test + "01", -20);
                wood(test + "100", -21);
                wood(test + "-1", -19);
                wood(test + " 1", -19);
                wood(test + sign + "1", -19);
            }
            for (char sign : ";?!~+-/".toCharArray()) {
                wood("hold 1 " + letter + sign + "1", -18);
            }
        }
        for (char letter : "abcdefgijmnpqrsuvxyzTKHLOW019".toCharArray()) {
            wood("hold 1 " + letter + "=1", -17);
        }
    }

    /** One blank ahead of each part behind the word, none elsewhere. */
    private static void blanks() {
        wood(" hold 1 t=1", -10);
        wood("hold  1 t=1", -15);
        wood("hold 1  t=1", -17);
        wood("hold 1 t =1", -18);
        wood("hold 1 t= 1", -19);
        wood("hold 1 t=1 ", -20);
        wood("hold 1 t=1 ;rope 1", -20);
        wood("hold 1 t=1; rope 1", -21);
        wood("hold1 t=1", -14);
        wood("hold 1t=1", -16);
        wood("hold 1 ! t=1", -18);
        wood("hold 1 ( t=1)", -18);
        wood("hold 1 (t=1 )", -21);
        wood("hold 1 t=1 &t=1", -20);
        wood("hold 1 t=1& t=1", -21);
        wood("hold\t1 t=1", -14);
        wood("rope\n1", -14);
    }

    /** CLAUSES, 10 at most, of every word. */
    private static void tenClauses() {
        String[] some = {"hold 1 t=1", "split 1 t=1", "wind 1 t=1", "wedge 1", "rope 1"};
        for (String last : some) {
            for (int before = 8; before <= 10; before++) {
                String text = "";
                for (int i = 0; i < before; i++) {
                    text = text + "rope 1;";
                }
                wood(text + last, before < 10 ? 0 : -10 - 69);
                wood(text, before < 10 ? -10 - 7 * before : -10 - 69);
            }
        }
        String tests = "";
        for (int i = 0; i < 9; i++) {
            tests = tests + "hold 1 w<8;";
        }
        FellTree x = new FellTree();
        x.tree(0, 0, 27, 1);
        x.plan(0, 1, 1);
        Due.is("4: nine of hold", Due.wood(x, tests.substring(0, 98)), 0);
        Due.is("4: HOLD", x.goes(0, 2), 10);
    }

    /** At most 5 of ! and ( are open: each row of five, and a sixth. */
    private static void fiveOpen() {
        for (int row = 0; row < 32; row++) {
            StringBuilder begins = new StringBuilder("hold 1 "), ends = new StringBuilder();
            for (int i = 0; i < 5; i++) {
                boolean isNot = (row >> i & 1) == 0;
                begins.append(isNot ? '!' : '(');
                ends.append(isNot ? "" : ")");
            }
            wood(begins + "t=1" + ends, 0);
            wood(begins + "t=1" + ends + "|t=2", 0);
            wood(begins + "!t=1" + ends, -22);
            wood(begins + "(t=1)" + ends, -22);
            wood(begins + "t=1" + ends + ")", -10 - begins.length() - 3 - ends.length());
        }
    }

    /** A ( is open till its ), a ! till its F ends: then another one may begin. */
    private static void openOnesEnd() {
        wood("hold 1 !!!!!t=1&!!!!!t=1|!!!!!t=1", 0);
        wood("hold 1 (((((t=1)))))&(((((t=1)))))", 0);
        wood("hold 1 !((((t=1))))&!!!!!t=1", 0);
        wood("hold 1 (!!!!t=1&!!!!t=1)", 0);
        wood("hold 1 (!!!!t=1&!!!!!t=1)", -10 - 20);
        wood("hold 1 ((((t=1)|(t=2)|!t=3)))", 0);
        wood("hold 1 ((((t=1&!(t=2)", -10 - 16);
        wood("hold 1 ((((t=1)&!(t=2))))", 0);
        wood("hold 1 ((((!t=1&!t=2))))", 0);
        wood("hold 1 ((((!t=1&!!t=2))))", -10 - 17);
        wood("hold 1 !!!!(t=1)&((((!t=2))))", 0);
        wood("hold 1 !!!!(t=1&!t=2)", -10 - 16);
        wood("hold 1 !!!!!t=1;split 1 (((((t=1)))))", 0);
        wood("hold 1 !!!!!t=1;split 1 ((((((t=1)))))", -10 - 29);
    }

    private static void endsTooEarly() {
        String[] whole = {"hold 10 t=1", "split 1 !k<2", "wind 1 (h>3)", "wedge 1", "rope 1", "hold 1 l=1|o=2&w=3",
            "rope 1;wedge 1", "rope 1;hold 1 ((t=1))"};
        for (String text : whole) {
            wood(text, 0);
            for (int size = 0; size < text.length(); size++) {
                String part = text.substring(0, size);
                boolean isOne = Model.stateAfter(part) == 1;
                wood(part, isOne ? 0 : -10 - size);
            }
        }
        wood("", -10);
        wood("rope", -14);
        wood("rope ", -15);
        wood("rope 1;", -17);
        wood("hold 1", -16);
        wood("hold 1 ", -17);
        wood("hold 1 t", -18);
        wood("hold 1 t<", -19);
        wood("hold 1 t<1|", -21);
        wood("hold 1 t<1&", -21);
        wood("hold 1 !", -18);
        wood("hold 1 (", -18);
        wood("hold 1 (t<1", -21);
    }

    /** Behind each beginning of a WOOD each of the 128 signs. */
    private static void everySignEverywhere() {
        String text = "split 10 !(t=1&k<2)|w>30;wedge 5;wind 0 o=0&l>1;rope 12;hold 7 h<9";
        for (int size = 0; size <= text.length(); size++) {
            String begins = text.substring(0, size);
            for (int sign = 0; sign < 128; sign++) {
                String next = begins + (char) sign;
                int state = Model.stateAfter(next);
                Due.is("4: sign " + sign + " behind '" + begins + "'", Due.wood(new FellTree(), next),
                    state < 0 ? -10 - size : state == 0 ? -11 - size : 0);
            }
        }
    }

    private static void aHundredSigns() {
        StringBuilder tests = new StringBuilder("hold 5 t>8");
        while (tests.length() < 98) {
            tests.append("|t>8");
        }
        Due.is("4: 98 signs", tests.length(), 98);
        FellTree x = new FellTree();
        x.tree(0, 0, 27, 1);
        x.plan(0, 1, 1);
        Due.is("4: 99 signs", Due.wood(x, tests + "9"), 0);
        Due.is("4: HOLD", x.goes(0, 2), 1);
        tests.setCharAt(tests.length() - 2, '<');
        tests.insert(5, '1');
        Due.is("4: 99 signs", tests.length(), 99);
        Due.is("4: 100 signs", Due.wood(x, tests + "0"), 1);
        Due.is("4: HOLD by the last TEST", x.goes(0, 2), 16);
        tests.setLength(99);
        Due.is("4: the 100th is a FAULT", Due.wood(x, tests + "!"), -109);
        Due.is("4: 100 signs that end too early", Due.wood(x, tests + "|"), -110);
    }

    /** wedge and rope: the last n, 3 and 2 without one; the newest WOOD alone. */
    private static void theLastOneCounts() {
        FellTree x = new FellTree();
        Due.wood(x, "wedge 99;rope 98;wedge 0;rope 97;rope 1");
        Due.is("5: wedge", x.told(0), 0);
        Due.is("5: rope", x.told(1), 1);
        Due.wood(x, "rope 0");
        Due.is("5: wedge without one", x.told(0), 3);
        Due.is("5: rope", x.told(1), 0);
        Due.wood(x, "wedge 99");
        Due.is("5: wedge", x.told(0), 99);
        Due.is("5: rope without one", x.told(1), 2);
        Due.wood(x, "hold 99 t<9");
        Due.is("5: wedge without one", x.told(0), 3);
        Due.is("5: rope without one", x.told(1), 2);
    }

    /** SPLITS AT is 40 less all of it, 0 at least. */
    private static void splitsAtNothing() {
        String[] texts = {"split 0 t=0", "split 39 t=0", "split 40 t=0", "split 41 t=0", "split 99 t=0",
            "split 20 t=0;split 19 t=0", "split 20 t=0;split 20 t=0", "split 20 t=0;split 21 t=0",
            "split 99 t=0;split 99 t=0;split 99 t=0", "split 40 t=1", "split 40 t=0;hold 9 t=0"};
        int[] due = {40, 1, 0, 0, 0, 1, 0, 0, 0, 40, 0};
        for (int i = 0; i < texts.length; i++) {
            FellTree x = new FellTree();
            x.tree(0, 0, 27, 3);
            Due.is("4: wood of '" + texts[i] + "'", Due.wood(x, texts[i]), 0);
            Due.is("10: SPLITS AT by '" + texts[i] + "'", x.goes(0, 3), due[i]);
        }
    }

    private static void withoutAWood() {
        FellTree x = new FellTree();
        x.tree(0, 0, 27, 3);
        Due.plan(x, 0, 0, 4, 4, 1, 0, 1);
        Due.is("4: HOLD is 1", x.goes(0, 2), 8);
        Due.is("4: SPLITS AT is 40", x.goes(0, 3), 40);
        Due.is("4: wedge is 3, rope is 2", x.goes(0, 0), 3 + 2 * 2);
        x.gusts(10);
        Due.is("4: WIND is 0", x.sure(0, 0, 0), 1);
        Due.is("4: WIND is 0", x.sure(0, 0, 1), 1);
        Due.wood(x, "hold 99 t=0;hold 99 t=0;hold 99 t=0;hold 99 t=0;hold 99 t=0;hold 99 t=0;hold 99 t=0;hold 99 t=0");
        Due.is("4: HOLD is 793", x.goes(0, 2), 8 * 793);
    }

    private static void toldAtBothEnds() {
        FellTree x = new FellTree();
        int[] due = {3, 2, 0};
        for (int what = 0; what < 3; what++) {
            Due.is("5: told(" + what + ")", x.told(what), due[what]);
        }
        for (int what : Outside.of(0, 2)) {
            Due.is("5: told(" + what + ")", x.told(what), NONE);
        }
        x.gusts(10);
        Due.is("5: odds", x.told(2), 10);
        x.gusts(0);
        Due.is("5: odds", x.told(2), 0);
    }
}
