import java.util.ArrayList;
import java.util.List;

/**
 * The document once more, as slow and as literal as can be: texts are looked at as texts, PLANS and
 * rows are all tried. ModelTest compares FellTree with it. It shares no code with FellTree.
 */
final class Model {
    static final int NONE = -1, BAD = -2, STATE = -3, FULL = -4;
    static final long NO = Long.MIN_VALUE;

    private static final class T {
        int number, kind, v, place, height, lean, way, hollow;
        boolean standing = true;
        int notch, left, right, wedges, rope, pull;

        T copy() {
            T t = new T();
            t.number = number; t.kind = kind; t.v = v; t.place = place; t.height = height;
            t.lean = lean; t.way = way; t.hollow = hollow; t.standing = standing;
            t.notch = notch; t.left = left; t.right = right; t.wedges = wedges; t.rope = rope; t.pull = pull;
            return t;
        }
    }

    private static final class Went {
        int forward, aside, strength, splits, how, way = -5, hangs = -5;
        List<Integer> lies = new ArrayList<>();

        long bits() {
            long bits = 0;
            for (int place : lies) {
                bits |= 1L << place;
            }
            return bits;
        }
    }

    private long things = 0;
    private String tape = "";
    private String holding = "";
    private int woods = 0;
    private int odds = 0;
    private List<T> trees = new ArrayList<>();
    private List<Integer> book = new ArrayList<>();
    private List<Integer> trace = new ArrayList<>();
    private Model image = null;

    private static boolean in(int n, int low, int high) {
        return low <= n && n <= high;
    }

    private boolean no(int tree) {
        return !in(tree, 0, trees.size() - 1);
    }

    private static void take(Model to, Model from) {
        to.things = from.things; to.tape = from.tape; to.holding = from.holding;
        to.woods = from.woods; to.odds = from.odds;
        to.trees = new ArrayList<>();
        for (T t : from.trees) {
            to.trees.add(t.copy());
        }
        to.book = new ArrayList<>(from.book);
    }

    // ---- woods

    int things(long places) {
        int n = 0;
        for (int place = 0; place < 64; place++) {
            n += (things >>> place & 1) == 1 ? 1 : 0;
        }
        things = places;
        return n;
    }

    int feed(int sign) {
        if (!in(sign, 0, 127)) return BAD;
        if (tape.length() == 100) return FULL;
        tape = tape + (char) sign;
        return tape.length();
    }

    int wood() {
        if (woods == 5) return FULL;
        String text = tape;
        tape = "";
        for (int size = 1; size <= text.length(); size++) {
            if (stateAfter(text.substring(0, size)) < 0) return -10 - (size - 1);
        }
        if (stateAfter(text) != 1) return -10 - text.length();
        holding = text;
        woods++;
        return woods - 1;
    }

    /** -1 no WOOD begins so, 0 one may, 1 this is one. A machine that reads sign by sign, with no calls. */
    static int stateAfter(String text) {
        String[] words = {"hold", "split", "wind", "wedge", "rope"};
        int clauses = 1;
        String word = "", open = "";
        String at = "word"; // word, blank, n, n1 (a second digit may come), n2, test, sign, m, m1, m2 (F has ended)
        for (char c : text.toCharArray()) {
            boolean digit = c >= '0' && c <= '9';
            boolean plain = word.equals("wedge") || word.equals("rope");
            if (at.equals("word")) {
                word = word + c;
                boolean begins = false;
                for (String w : words) {
                    begins |= w.startsWith(word);
                    if (w.equals(word)) at = "blank";
                }
                if (!begins) return -1;
            } else if (at.equals("blank")) {
                if (c != ' ') return -1;
                at = "n";
            } else if (at.equals("n") || at.equals("m")) {
                if (!digit) return -1;
                at = at + (c == '0' ? "2" : "1");
            } else if ((at.equals("n1") || at.equals("m1")) && digit) {
                at = at.charAt(0) + "2";
            } else if (at.startsWith("n") && !plain) {
                if (c != ' ') return -1;
                at = "test";
            } else if (at.equals("test")) {
                if (c == '!' || c == '(') {
                    open = open + c;
                    if (open.length() > 5) return -1;
                } else if ("tkhlow".indexOf(c) >= 0) {
                    at = "sign";
                } else {
                    return -1;
                }
            } else if (at.equals("sign")) {
                if ("<=>".indexOf(c) < 0) return -1;
                at = "m";
            } else {
                while (open.endsWith("!")) open = open.substring(0, open.length() - 1);
                if (c == ';' && open.isEmpty() && clauses < 10) {
                    clauses++;
                    word = "";
                    at = "word";
                } else if ((c == '&' || c == '|') && !plain) {
                    at = "test";
                } else if (c == ')' && open.endsWith("(")) {
                    open = open.substring(0, open.length() - 1);
                    at = "m2";
                } else {
                    return -1;
                }
            }
        }
        boolean plain = word.equals("wedge") || word.equals("rope");
        boolean ended = in(at.length(), 2, 2) && (at.charAt(0) == 'm' || at.charAt(0) == 'n' && plain);
        return ended && open.indexOf("(") < 0 ? 1 : 0;
    }

    /** Cuts a text where a sign stands that is in no ( ). */
    private static List<String> cut(String text, char by) {
        List<String> parts = new ArrayList<>();
        int depth = 0, from = 0;
        for (int i = 0; i < text.length(); i++) {
            char c = text.charAt(i);
            depth += c == '(' ? 1 : c == ')' ? -1 : 0;
            if (c == by && depth == 0) {
                parts.add(text.substring(from, i));
                from = i + 1;
            }
        }
        parts.add(text.substring(from));
        return parts;
    }

    private static boolean truth(String e, T t, int w) {
        if (cut(e, '|').size() > 1) {
            boolean any = false;
            for (String part : cut(e, '|')) any |= truth(part, t, w);
            return any;
        }
        if (cut(e, '&').size() > 1) {
            boolean all = true;
            for (String part : cut(e, '&')) all &= truth(part, t, w);
            return all;
        }
        if (e.startsWith("!")) return !truth(e.substring(1), t, w);
        if (e.startsWith("(")) return truth(e.substring(1, e.length() - 1), t, w);
        int[] values = {t.number, t.kind, t.height, t.lean, t.hollow, w};
        int value = values["tkhlow".indexOf(e.charAt(0))];
        int n = Integer.parseInt(e.substring(2));
        return e.charAt(1) == '<' ? value < n : e.charAt(1) == '=' ? value == n : value > n;
    }

    private int sum(String word, T t, int w) {
        int sum = 0;
        for (String clause : holding.split(";")) {
            String[] parts = clause.split(" ");
            if (parts[0].equals(word) && truth(parts[2], t, w)) sum += Integer.parseInt(parts[1]);
        }
        return sum;
    }

    private int last(String word, int without) {
        int n = without;
        for (String clause : holding.split(";")) {
            String[] parts = clause.split(" ");
            if (parts[0].equals(word)) n = Integer.parseInt(parts[1]);
        }
        return n;
    }

    int told(int what) {
        return what == 0 ? last("wedge", 3) : what == 1 ? last("rope", 2) : what == 2 ? odds : NONE;
    }

    // ---- trees

    int tree(int kind, int v, int place, int height) {
        if (!in(kind, 0, 6) || !in(place, 0, 63)) return NONE;
        if (!in(v, 0, 9) || !in(height, 1, 7)) return BAD;
        for (T t : trees) if (t.place == place) return STATE;
        if (trees.size() == 6) return FULL;
        T t = new T();
        t.number = trees.size(); t.kind = kind; t.v = v; t.place = place; t.height = height;
        trees.add(t);
        return t.number;
    }

    int lean(int tree, int way, int lean, int hollow) {
        if (no(tree) || !in(way, 0, 7)) return NONE;
        if (!in(lean, 0, 9) || !in(hollow, 0, 9)) return BAD;
        T t = trees.get(tree);
        int before = t.lean;
        t.way = way; t.lean = lean; t.hollow = hollow;
        return before;
    }

    int of(int tree, int what) {
        if (no(tree) || !in(what, 0, 7)) return NONE;
        T t = trees.get(tree);
        int[] all = {t.kind, t.v, t.place, t.height, t.lean, t.way, t.hollow, t.standing ? 1 : 0};
        return all[what];
    }

    int plan(int tree, int part, int n) {
        if (no(tree) || !in(part, 0, 5)) return NONE;
        if (!in(n, 0, part == 0 || part == 4 ? 7 : 9)) return BAD;
        T t = trees.get(tree);
        int before;
        switch (part) {
            case 0: before = t.notch; t.notch = n; return before;
            case 1: before = t.left; t.left = n; return before;
            case 2: before = t.right; t.right = n; return before;
            case 3: before = t.wedges; t.wedges = n; return before;
            case 4: before = t.rope; t.rope = n; return before;
            default: before = t.pull; t.pull = n; return before;
        }
    }

    /** By walking round about, both sides. */
    private static int apart(int a, int b) {
        int on = 0, back = 0;
        for (int w = a; w != b; w = (w + 1) % 8) on++;
        for (int w = a; w != b; w = (w + 7) % 8) back++;
        return on < back ? on : back;
    }

    private static int side(int way, int notch) {
        for (int steps = 1; steps <= 3; steps++) {
            if ((notch + steps) % 8 == way) return 1;
            if ((notch + 8 - steps) % 8 == way) return -1;
        }
        return 0;
    }

    private Went go(T t, int gust, List<T> up) {
        Went g = new Went();
        g.forward = t.lean * (2 - apart(t.way, t.notch)) + told(0) * t.wedges
            + told(1) * t.pull * (2 - apart(t.rope, t.notch));
        g.aside = t.lean * side(t.way, t.notch) + (t.right - t.left) + told(1) * t.pull * side(t.rope, t.notch);
        if (gust >= 0) {
            int wind = sum("wind", t, gust);
            g.forward += wind * (2 - apart(gust, t.notch));
            g.aside += wind * side(gust, t.notch);
        }
        int hold = 1 + sum("hold", t, t.notch);
        g.strength = hold * (t.left + t.right) - t.hollow * (t.left + t.right) / 10;
        g.splits = 40 - sum("split", t, t.notch);
        if (g.splits < 0) g.splits = 0;
        switch (t.kind) {
            case 1: case 4:
                if (in(g.aside, -t.v, t.v)) g.aside = 0;
                break;
            case 2:
                g.aside += t.v;
                break;
            case 5:
                g.aside += t.v;
                g.strength -= t.v;
                if (g.strength < 0) g.strength = 0;
                break;
            case 3:
                g.forward -= t.v;
                break;
            case 6:
                g.forward -= t.v;
                g.splits -= t.v;
                if (g.splits < 0) g.splits = 0;
                break;
            default:
                break;
        }
        int much = g.aside < 0 ? -g.aside : g.aside;
        g.how = g.forward < 0 ? 2 : g.forward > g.splits ? 4 : much > g.strength ? 3 : much * 2 > g.strength ? 1 : 0;
        if (g.how == 2) return g;
        int turns = g.how == 1 ? 1 : g.how == 3 ? 2 : 0;
        g.way = t.notch;
        for (int i = 0; i < turns; i++) {
            g.way = g.aside > 0 ? g.way == 7 ? 0 : g.way + 1 : g.way == 0 ? 7 : g.way - 1;
        }
        int down = in(g.way, 3, 5) ? 1 : g.way == 2 || g.way == 6 ? 0 : -1;
        int along = in(g.way, 1, 3) ? 1 : g.way == 0 || g.way == 4 ? 0 : -1;
        int r = t.place / 8, c = t.place % 8;
        for (int i = 0; i < (g.how == 4 ? t.height - 1 : t.height); i++) {
            r += down;
            c += along;
            if (!in(r, 0, 7) || !in(c, 0, 7)) return g;
            for (T other : up) {
                if (other != t && other.place == 8 * r + c) {
                    g.hangs = other.number;
                    return g;
                }
            }
            g.lies.add(8 * r + c);
        }
        return g;
    }

    private List<T> standing() {
        List<T> up = new ArrayList<>();
        for (T t : trees) if (t.standing) up.add(t);
        return up;
    }

    int goes(int tree, int what) {
        if (no(tree) || !in(what, 0, 7)) return -10001;
        T t = trees.get(tree);
        if (!t.standing) return -10002;
        Went g = go(t, -1, standing());
        int[] all = {g.forward, g.aside, g.strength, g.splits, g.how, g.way, g.lies.size(), g.hangs};
        return all[what];
    }

    long lies(int tree) {
        if (no(tree) || !trees.get(tree).standing) return NO;
        return go(trees.get(tree), -1, standing()).bits();
    }

    int fell(int tree) {
        if (no(tree)) return NONE;
        T t = trees.get(tree);
        if (!t.standing) return STATE;
        int how = go(t, -1, standing()).how;
        t.standing = how == 2;
        return how;
    }

    // ---- how wide, how sure

    int wide(int tree, int n) {
        if (no(tree)) return NONE;
        if (!in(n, 0, 9)) return BAD;
        if (!trees.get(tree).standing) return STATE;
        T t = trees.get(tree).copy();
        t.pull = 0;
        int ways = 0;
        for (t.notch = 0; t.notch < 8; t.notch++)
            for (t.left = 0; t.left < 10; t.left++)
                for (t.right = 0; t.right < 10; t.right++)
                    for (t.wedges = 0; t.wedges <= n; t.wedges++) {
                        int way = go(t, -1, new ArrayList<>()).way;
                        if (way >= 0) ways |= 1 << way;
                    }
        return ways;
    }

    int least(int tree, int way) {
        if (no(tree) || !in(way, 0, 7)) return NONE;
        if (!trees.get(tree).standing) return STATE;
        T t = trees.get(tree).copy();
        t.pull = 0;
        t.notch = way;
        for (int code = 0; code < 1000; code++) {
            t.wedges = code / 100;
            t.left = code / 10 % 10;
            t.right = code % 10;
            if (go(t, -1, new ArrayList<>()).how == 0) return code;
        }
        return -5;
    }

    int gusts(int n) {
        if (!in(n, 0, 10)) return BAD;
        int before = odds;
        odds = n;
        return before;
    }

    /** Of 80 days, on which TREES go by this wind or that: one Went a day. */
    private List<Went> days(T t) {
        List<Went> days = new ArrayList<>();
        for (int ten = 0; ten < 10; ten++)
            for (int way = 0; way < 8; way++) days.add(go(t, ten < odds ? way : -1, standing()));
        return days;
    }

    long sure(int tree, int what, int part) {
        if (no(tree) || !in(what, 0, 1) || !in(part, 0, 1) || !trees.get(tree).standing) return NO;
        int good = 0;
        for (Went g : days(trees.get(tree))) {
            if (what == 0 ? g.how == 0 : (g.bits() & things) != 0) good++;
        }
        int below = 80;
        for (int by = 80; by > 1; by--) {
            if (good % by == 0 && below % by == 0) {
                good /= by;
                below /= by;
            }
        }
        return part == 0 ? good : below;
    }

    long stand(int tree) {
        if (no(tree) || !trees.get(tree).standing) return NO;
        T t = trees.get(tree);
        List<Went> days = days(t);
        long bits = 0;
        for (int place = 0; place < 64; place++) {
            boolean free = true;
            for (T other : standing()) free &= other.place != place;
            int rows = Math.abs(place / 8 - t.place / 8), columns = Math.abs(place % 8 - t.place % 8);
            free &= rows > 1 || columns > 1;
            for (Went g : days) free &= !g.lies.contains(place);
            if (free) bits |= 1L << place;
        }
        return bits;
    }

    /** Tries all rows, by numbers. */
    private List<Integer> row(List<T> left) {
        if (left.isEmpty()) return new ArrayList<>();
        for (T t : left) {
            Went g = go(t, -1, left);
            if (g.how != 2 && g.hangs == -5) {
                List<T> rest = new ArrayList<>(left);
                rest.remove(t);
                List<Integer> row = row(rest);
                if (row != null) {
                    row.add(0, t.number);
                    return row;
                }
            }
        }
        return null;
    }

    int order(int k) {
        if (!in(k, 0, 4)) return NONE;
        if (standing().size() > 5) return -9;
        List<Integer> row = row(standing());
        return row == null || k >= row.size() ? -5 : row.get(k);
    }

    int hung() {
        int n = 0;
        for (T t : standing()) n += go(t, -1, standing()).hangs == -5 ? 0 : 1;
        return n;
    }

    // ---- what it was

    int blame(int tree, int way) {
        if (no(tree) || !in(way, 0, 7)) return NONE;
        if (!trees.get(tree).standing) return STATE;
        int bits = 0;
        for (Went g : days(trees.get(tree))) if (g.way == way) bits |= 1 << g.how;
        return bits;
    }

    int knock(int tree, int how) {
        if (no(tree) || !in(how, 0, 4)) return NONE;
        if (!trees.get(tree).standing) return STATE;
        T t = trees.get(tree).copy();
        int bits = 0;
        for (t.hollow = 0; t.hollow < 10; t.hollow++) if (go(t, -1, standing()).how == how) bits |= 1 << t.hollow;
        return bits;
    }

    int limbs(int tree) {
        if (no(tree)) return NONE;
        if (!trees.get(tree).standing) return STATE;
        T t = trees.get(tree).copy();
        int had = t.lean;
        for (; t.lean >= 0; t.lean--) if (go(t, -1, standing()).how == 0) return had - t.lean;
        return -5;
    }

    int book(int way) {
        if (!in(way, -1, 7)) return NONE;
        if (way == -1) book.clear();
        else if (book.size() == 6) return FULL;
        else book.add(way);
        return book.size();
    }

    int judged(int what) {
        if (!in(what, 0, 1)) return NONE;
        int right = 0, worst = -5;
        for (T t : standing()) {
            if (t.number < book.size()) {
                if (go(t, -1, standing()).way == book.get(t.number)) right++;
                else if (worst == -5) worst = t.number;
            }
        }
        return what == 0 ? right : worst;
    }

    // ---- acts: here as classes, so that the Java machine itself finds the bodies

    private class Fall {
        final int i, v;

        Fall(int i, int v) {
            this.i = i;
            this.v = v;
        }

        int leans(int x) { trace.add(1); return x + i; }
        int holds(int x) { trace.add(2); return leans(x) - v; }
        int tells(int x) { trace.add(3); return holds(x) * 2; }
    }

    private class True extends Fall {
        True(int i, int v) { super(i, v); }
        @Override int leans(int x) { trace.add(11); return super.leans(x * 3); }
    }

    private class Swung extends Fall {
        Swung(int i, int v) { super(i, v); }
        @Override int holds(int x) { trace.add(21); return -super.holds(x); }
    }

    private class Sat extends Fall {
        Sat(int i, int v) { super(i, v); }
        @Override int tells(int x) { trace.add(31); return super.tells(x) ^ 7; }
    }

    private class Hung extends True {
        Hung(int i, int v) { super(i, v); }
        @Override int tells(int x) { trace.add(41); return super.tells(x - 1) + leans(2); }
    }

    private class Torn extends Swung {
        Torn(int i, int v) { super(i, v); }
        @Override int leans(int x) { trace.add(51); return super.leans(x) ^ i; }
    }

    private class Split extends Sat {
        Split(int i, int v) { super(i, v); }
        @Override int holds(int x) { trace.add(61); return super.holds(x) + v; }
    }

    private Fall fall(T t) {
        switch (t.kind) {
            case 0: return new Fall(t.number, t.v);
            case 1: return new True(t.number, t.v);
            case 2: return new Swung(t.number, t.v);
            case 3: return new Sat(t.number, t.v);
            case 4: return new Hung(t.number, t.v);
            case 5: return new Torn(t.number, t.v);
            default: return new Split(t.number, t.v);
        }
    }

    int act(int tree, int act, int x) {
        trace.clear();
        if (no(tree) || !in(act, 0, 2)) return 0;
        Fall f = fall(trees.get(tree));
        return act == 0 ? f.leans(x) : act == 1 ? f.holds(x) : f.tells(x);
    }

    int trace(int i) {
        return in(i, 0, Math.min(20, trace.size()) - 1) ? trace.get(i) : NONE;
    }

    int as(int tree, int k) {
        if (no(tree) || !in(k, 0, 6)) return NONE;
        Fall f = fall(trees.get(tree));
        boolean[] fits = {true, f instanceof True, f instanceof Swung, f instanceof Sat, f instanceof Hung,
            f instanceof Torn, f instanceof Split};
        return fits[k] ? f.v : -6;
    }

    int image() {
        image = new Model();
        take(image, this);
        return trees.size();
    }

    int undo() {
        if (image == null) return STATE;
        take(this, image);
        return trees.size();
    }

    int count(int what) {
        switch (what) {
            case 0: return trees.size();
            case 1: return woods;
            case 2: return book.size();
            case 3: return tape.length();
            case 4: return trace.size();
            case 5: return standing().size();
            default: return NONE;
        }
    }
}
