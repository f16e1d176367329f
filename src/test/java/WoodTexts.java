import java.util.Random;

/** Texts of WOODS, some of them with a FAULT. */
final class WoodTexts {
    private final Random random;

    WoodTexts(Random random) {
        this.random = random;
    }

    String next() {
        StringBuilder text = new StringBuilder(clause());
        for (int i = random.nextInt(4); i > 0; i--) {
            text.append(';').append(clause());
        }
        if (random.nextInt(4) == 0) {
            spoil(text);
        }
        return text.toString();
    }

    private void spoil(StringBuilder text) {
        String signs = "!()&|;<=> 0123456789tkhlowholdsplitwedgerope\u0000\u007f";
        int at = random.nextInt(text.length());
        char sign = signs.charAt(random.nextInt(signs.length()));
        switch (random.nextInt(4)) {
            case 0: text.insert(at, sign); break;
            case 1: text.setCharAt(at, sign); break;
            case 2: text.deleteCharAt(at); break;
            default: text.setLength(at); break;
        }
    }

    private String clause() {
        switch (random.nextInt(9)) {
            case 0: return "wedge " + random.nextInt(12);
            case 1: return "rope " + random.nextInt(12);
            case 2: case 3: return "split " + random.nextInt(60) + " " + either(0);
            case 4: case 5: return "wind " + random.nextInt(14) + " " + either(0);
            default: return "hold " + random.nextInt(8) + " " + either(0);
        }
    }

    private String either(int open) {
        return random.nextInt(3) == 0 ? both(open) + "|" + either(open) : both(open);
    }

    private String both(int open) {
        return random.nextInt(3) == 0 ? single(open) + "&" + both(open) : single(open);
    }

    private String single(int open) {
        int chance = random.nextInt(8);
        boolean deeper = open < 5 || random.nextInt(20) == 0;
        if (chance == 0 && deeper) {
            return "!" + single(open + 1);
        }
        if (chance == 1 && deeper) {
            return "(" + either(open + 1) + ")";
        }
        String letters = "tkhlow";
        return "" + letters.charAt(random.nextInt(6)) + "<=>".charAt(random.nextInt(3)) + random.nextInt(10);
    }
}
