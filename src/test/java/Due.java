/** Compares answers with those that are due, and tells every one that is not. */
final class Due {
    private static int asked = 0;
    private static int wrong = 0;

    private Due() {
    }

    static void is(String call, long got, long want) {
        asked++;
        if (got != want) {
            wrong++;
            if (wrong <= 50) {
                System.out.println(call + " answered " + got + ", due is " + want);
            }
        }
    }

    static void holds(String what, boolean so) {
        is(what, so ? 1 : 0, 1);
    }

    static boolean anyWrong() {
        return wrong > 0;
    }

    /** Ends the test: exit code 1, if an answer was wrong or none was asked for. */
    static void end() {
        System.out.println(asked + " answers, " + wrong + " not as due");
        if (wrong > 0 || asked == 0) {
            System.exit(1);
        }
    }

    /** Feeds a text to THE TAPE, and asks for the WOOD. */
    static int wood(FellTree x, String text) {
        for (int i = 0; i < text.length(); i++) {
            x.feed(text.charAt(i));
        }
        return x.wood();
    }

    /** A whole PLAN: notch, left, right, WEDGES, the rope's WAY, PULL. */
    static void plan(FellTree x, int tree, int... parts) {
        for (int part = 0; part < parts.length; part++) {
            Due.holds("plan part " + part + " is taken", x.plan(tree, part, parts[part]) >= 0);
        }
    }

    /** PLACES as bits. */
    static long places(int... places) {
        long bits = 0;
        for (int place : places) {
            bits |= 1L << place;
        }
        return bits;
    }
}
