/** Where a tree will lie. The words in capitals are those of the document (DOC.md, 'Terms'). */
public final class FellTree {
    public static final int NONE = -1, BAD = -2, STATE = -3, FULL = -4;
    public static final long NO = Long.MIN_VALUE;

    private static final int WAYS = 8, ROW = 8, PLACES = 64;
    private static final int MOST_TREES = 6, MOST_WOODS = 5, MOST_SIGNS = 100, MOST_CLAUSES = 10;
    private static final int MOST_OPEN = 5, MOST_IN_ORDER = 5, MOST_TRACE = 20;
    private static final int HIGHEST = 7, NINE = 9, TEN = 10;

    /** Answers that are no refusals. */
    private static final int NOT_ANY = -5, ANOTHER_KIND = -6, TOO_MANY = -9, FAULTS = -10;
    private static final int GOES_NONE = -10001, GOES_STATE = -10002;

    private static final int FALL = 0, TRUE = 1, SWUNG = 2, SAT = 3, HUNG = 4, TORN = 5, SPLIT = 6;
    private static final int KINDS = 7;
    private static final int[] KIND_ABOVE = {NONE, FALL, FALL, FALL, TRUE, SWUNG, SAT};

    private static final int GOES_TRUE = 0, GOES_SWUNG = 1, SITS_BACK = 2, TORN_OFF = 3, SPLITS = 4;
    private static final int HOWS = 5;

    private static final int NOTCH = 0, LEFT = 1, RIGHT = 2, WEDGES = 3, ROPE_WAY = 4, PULL = 5;
    private static final int PARTS = 6;

    /** Told in place of a GUST's WAY: none comes. */
    private static final int CALM = -1;

    private static final int[] ROWS_ON = {-1, -1, 0, 1, 1, 1, 0, -1};
    private static final int[] COLUMNS_ON = {0, 1, 1, 1, 0, -1, -1, -1};

    private final Ground ground;
    private final Reader reader;
    private final Course course;
    private final Bodies bodies;
    /** A TREE that is tried with other PLANS, LEAN or HOLLOW, so that the real one stays as it is. */
    private final Tree trial;
    /** THE IMAGE; null as long as there is none. */
    private Ground kept;

    public FellTree() {
        ground = new Ground();
        reader = new Reader();
        course = new Course();
        bodies = new Bodies();
        trial = new Tree();
        kept = null;
    }

    // ---- fields, woods

    public int things(long places) {
        int before = Long.bitCount(ground.things);
        ground.things = places;
        return before;
    }

    public int feed(int sign) {
        if (outside(sign, 127)) {
            return BAD;
        }
        if (ground.signs >= MOST_SIGNS) {
            return FULL;
        }
        ground.tape[ground.signs] = (byte) sign;
        ground.signs++;
        return ground.signs;
    }

    public int wood() {
        if (ground.woods >= MOST_WOODS) {
            return FULL;
        }
        boolean sound = reader.reads(ground.tape, ground.signs);
        ground.signs = 0;
        if (!sound) {
            return FAULTS - reader.at;
        }
        ground.wood.copyFrom(reader.draft);
        ground.woods++;
        return ground.woods - 1;
    }

    public int told(int what) {
        switch (what) {
            case 0: return ground.wood.wedge;
            case 1: return ground.wood.rope;
            case 2: return ground.odds;
            default: return NONE;
        }
    }

    // ---- trees, plans

    public int tree(int kind, int v, int place, int height) {
        if (outside(kind, KINDS - 1) || outside(place, PLACES - 1)) {
            return NONE;
        }
        if (outside(v, NINE) || height < 1 || height > HIGHEST) {
            return BAD;
        }
        if (ground.isTaken(place)) {
            return STATE;
        }
        if (ground.planted >= MOST_TREES) {
            return FULL;
        }
        int number = ground.planted;
        ground.trees[number].begin(number, kind, v, place, height);
        ground.planted++;
        return number;
    }

    public int lean(int tree, int way, int lean, int hollow) {
        Tree leaning = ground.find(tree);
        if (leaning == null || outside(way, WAYS - 1)) {
            return NONE;
        }
        if (outside(lean, NINE) || outside(hollow, NINE)) {
            return BAD;
        }
        int before = leaning.lean;
        leaning.leanWay = way;
        leaning.lean = lean;
        leaning.hollow = hollow;
        return before;
    }

    public int of(int tree, int what) {
        Tree asked = ground.find(tree);
        if (asked == null) {
            return NONE;
        }
        switch (what) {
            case 0: return asked.kind;
            case 1: return asked.v;
            case 2: return asked.place;
            case 3: return asked.height;
            case 4: return asked.lean;
            case 5: return asked.leanWay;
            case 6: return asked.hollow;
            case 7: return asked.standing ? 1 : 0;
            default: return NONE;
        }
    }

    public int plan(int tree, int part, int n) {
        Tree planned = ground.find(tree);
        if (planned == null || outside(part, PARTS - 1)) {
            return NONE;
        }
        boolean isWay = part == NOTCH || part == ROPE_WAY;
        if (outside(n, isWay ? WAYS - 1 : NINE)) {
            return BAD;
        }
        int before = planned.plan[part];
        planned.plan[part] = n;
        return before;
    }

    public int goes(int tree, int what) {
        Tree going = ground.find(tree);
        if (going == null || outside(what, 7)) {
            return GOES_NONE;
        }
        if (!going.standing) {
            return GOES_STATE;
        }
        course.run(ground, going, CALM);
        switch (what) {
            case 0: return course.forward;
            case 1: return course.aside;
            case 2: return course.strength;
            case 3: return course.splitsAt;
            case 4: return course.how;
            case 5: return course.way;
            case 6: return Long.bitCount(course.liesOn);
            default: return course.hangsOn;
        }
    }

    public long lies(int tree) {
        Tree going = ground.find(tree);
        if (going == null || !going.standing) {
            return NO;
        }
        course.run(ground, going, CALM);
        return course.liesOn;
    }

    public int fell(int tree) {
        Tree going = ground.find(tree);
        if (going == null) {
            return NONE;
        }
        if (!going.standing) {
            return STATE;
        }
        course.decide(ground.wood, going, CALM);
        if (course.how != SITS_BACK) {
            going.standing = false;
        }
        return course.how;
    }

    // ---- how wide, how sure

    public int wide(int tree, int n) {
        Tree asked = ground.find(tree);
        if (asked == null) {
            return NONE;
        }
        if (outside(n, NINE)) {
            return BAD;
        }
        if (!asked.standing) {
            return STATE;
        }
        trial.copyFrom(asked);
        trial.plan[PULL] = 0;
        int ways = 0;
        for (int notch = 0; notch < WAYS; notch++) {
            trial.plan[NOTCH] = notch;
            ways |= waysByWedges(n);
        }
        return ways;
    }

    /** STRIP changes neither SITS BACK nor SPLITS, WEDGES nothing else: so each is tried apart. */
    private int waysByWedges(int most) {
        course.weigh(ground.wood, trial);
        int ways = 0;
        int steady = NONE;
        for (int wedges = 0; wedges <= most; wedges++) {
            trial.plan[WEDGES] = wedges;
            course.push(ground.wood, trial, CALM);
            if (course.how == SPLITS) {
                ways |= bitOf(course.way);
            } else if (course.how != SITS_BACK) {
                steady = wedges;
            }
        }
        return steady == NONE ? ways : ways | waysByStrip(steady);
    }

    private int waysByStrip(int wedges) {
        trial.plan[WEDGES] = wedges;
        int ways = 0;
        for (int left = 0; left <= NINE; left++) {
            for (int right = 0; right <= NINE; right++) {
                trial.plan[LEFT] = left;
                trial.plan[RIGHT] = right;
                course.push(ground.wood, trial, CALM);
                ways |= bitOf(course.way);
            }
        }
        return ways;
    }

    public int least(int tree, int way) {
        Tree asked = ground.find(tree);
        if (asked == null || outside(way, WAYS - 1)) {
            return NONE;
        }
        if (!asked.standing) {
            return STATE;
        }
        trial.copyFrom(asked);
        trial.plan[NOTCH] = way;
        trial.plan[PULL] = 0;
        course.weigh(ground.wood, trial);
        for (int wedges = 0; wedges <= NINE; wedges++) {
            trial.plan[WEDGES] = wedges;
            int strip = leastStrip();
            if (strip != NOT_ANY) {
                return 100 * wedges + strip;
            }
        }
        return NOT_ANY;
    }

    private int leastStrip() {
        for (int left = 0; left <= NINE; left++) {
            for (int right = 0; right <= NINE; right++) {
                trial.plan[LEFT] = left;
                trial.plan[RIGHT] = right;
                course.push(ground.wood, trial, CALM);
                if (course.how == GOES_TRUE) {
                    return 10 * left + right;
                }
            }
        }
        return NOT_ANY;
    }

    public int gusts(int n) {
        if (outside(n, TEN)) {
            return BAD;
        }
        int before = ground.odds;
        ground.odds = n;
        return before;
    }

    public long sure(int tree, int what, int part) {
        Tree going = ground.find(tree);
        if (going == null || outside(what, 1) || outside(part, 1) || !going.standing) {
            return NO;
        }
        int whole = TEN * WAYS;
        int share = 0;
        for (int gust = CALM; gust < WAYS; gust++) {
            int likely = ground.weightOf(gust);
            if (likely > 0) {
                course.run(ground, going, gust);
                boolean counts = what == 0 ? course.how == GOES_TRUE : (course.liesOn & ground.things) != 0;
                share += counts ? likely : 0;
            }
        }
        int common = commonDivisor(whole, share);
        return (part == 0 ? share : whole) / common;
    }

    public long stand(int tree) {
        Tree going = ground.find(tree);
        if (going == null || !going.standing) {
            return NO;
        }
        long unsafe = ground.standingPlaces() | stepsFrom(going.place);
        for (int gust = CALM; gust < WAYS; gust++) {
            if (ground.weightOf(gust) > 0) {
                course.run(ground, going, gust);
                unsafe |= course.liesOn;
            }
        }
        return ~unsafe;
    }

    public int order(int k) {
        if (outside(k, MOST_IN_ORDER - 1)) {
            return NONE;
        }
        int left = ground.standingTrees();
        int size = Integer.bitCount(left);
        if (size > MOST_IN_ORDER) {
            return TOO_MANY;
        }
        int answer = NOT_ANY;
        for (int turn = 0; turn < size; turn++) {
            int next = firstFree(left);
            if (next == NOT_ANY) {
                return NOT_ANY;
            }
            if (turn == k) {
                answer = next;
            }
            left &= ~bitOf(next);
        }
        return answer;
    }

    /** One that has gone makes none HANG, so the lowest that is free now can always go first. */
    private int firstFree(int left) {
        for (int number = 0; number < ground.planted; number++) {
            if ((left & bitOf(number)) != 0) {
                course.decide(ground.wood, ground.trees[number], CALM);
                course.lay(ground, ground.trees[number], left);
                if (course.how != SITS_BACK && course.hangsOn == NOT_ANY) {
                    return number;
                }
            }
        }
        return NOT_ANY;
    }

    public int hung() {
        int hanging = 0;
        for (int number = 0; number < ground.planted; number++) {
            Tree going = ground.trees[number];
            if (going.standing) {
                course.run(ground, going, CALM);
                hanging += course.hangsOn == NOT_ANY ? 0 : 1;
            }
        }
        return hanging;
    }

    // ---- what it was

    public int blame(int tree, int way) {
        Tree going = ground.find(tree);
        if (going == null || outside(way, WAYS - 1)) {
            return NONE;
        }
        if (!going.standing) {
            return STATE;
        }
        int hows = 0;
        for (int gust = CALM; gust < WAYS; gust++) {
            if (ground.weightOf(gust) > 0) {
                course.decide(ground.wood, going, gust);
                hows |= course.way == way ? bitOf(course.how) : 0;
            }
        }
        return hows;
    }

    public int knock(int tree, int how) {
        Tree asked = ground.find(tree);
        if (asked == null || outside(how, HOWS - 1)) {
            return NONE;
        }
        if (!asked.standing) {
            return STATE;
        }
        trial.copyFrom(asked);
        int hollows = 0;
        for (int hollow = 0; hollow <= NINE; hollow++) {
            trial.hollow = hollow;
            course.decide(ground.wood, trial, CALM);
            hollows |= course.how == how ? bitOf(hollow) : 0;
        }
        return hollows;
    }

    public int limbs(int tree) {
        Tree asked = ground.find(tree);
        if (asked == null) {
            return NONE;
        }
        if (!asked.standing) {
            return STATE;
        }
        trial.copyFrom(asked);
        for (int less = 0; less <= asked.lean; less++) {
            trial.lean = asked.lean - less;
            course.decide(ground.wood, trial, CALM);
            if (course.how == GOES_TRUE) {
                return less;
            }
        }
        return NOT_ANY;
    }

    public int book(int way) {
        if (way == -1) {
            ground.tellings = 0;
            return 0;
        }
        if (outside(way, WAYS - 1)) {
            return NONE;
        }
        if (ground.tellings >= MOST_TREES) {
            return FULL;
        }
        ground.book[ground.tellings] = way;
        ground.tellings++;
        return ground.tellings;
    }

    public int judged(int what) {
        if (outside(what, 1)) {
            return NONE;
        }
        int right = 0;
        int worst = NOT_ANY;
        int both = Math.min(ground.planted, ground.tellings);
        for (int number = 0; number < both; number++) {
            Tree going = ground.trees[number];
            if (going.standing) {
                course.decide(ground.wood, going, CALM);
                if (course.way == ground.book[number]) {
                    right++;
                } else if (worst == NOT_ANY) {
                    worst = number;
                }
            }
        }
        return what == 0 ? right : worst;
    }

    // ---- acts, the image

    public int act(int tree, int act, int x) {
        bodies.ran = 0;
        Tree acting = ground.find(tree);
        return acting == null ? 0 : bodies.run(acting, act, x);
    }

    public int trace(int i) {
        return outside(i, Math.min(bodies.ran, MOST_TRACE) - 1) ? NONE : bodies.began[i];
    }

    public int as(int tree, int k) {
        Tree taken = ground.find(tree);
        if (taken == null || outside(k, KINDS - 1)) {
            return NONE;
        }
        int kind = taken.kind;
        for (int step = 0; step < KINDS && kind != NONE; step++) {
            if (kind == k) {
                return taken.v;
            }
            kind = kindAbove(kind);
        }
        return ANOTHER_KIND;
    }

    public int image() {
        if (kept == null) {
            kept = new Ground();
        }
        kept.copyFrom(ground);
        return ground.planted;
    }

    public int undo() {
        if (kept == null) {
            return STATE;
        }
        ground.copyFrom(kept);
        return ground.planted;
    }

    public int count(int what) {
        switch (what) {
            case 0: return ground.planted;
            case 1: return ground.woods;
            case 2: return ground.tellings;
            case 3: return ground.signs;
            case 4: return bodies.ran;
            case 5: return Integer.bitCount(ground.standingTrees());
            default: return NONE;
        }
    }

    // ---- numbers, WAYS, PLACES, KINDS

    private static boolean outside(int n, int highest) {
        return n < 0 || n > highest;
    }

    /** No bit for what is none (below 0). */
    private static int bitOf(int n) {
        return n < 0 ? 0 : 1 << n;
    }

    private static int commonDivisor(int a, int b) {
        int divisor = a;
        int rest = b;
        for (int step = 0; step < PLACES && rest != 0; step++) {
            int next = divisor % rest;
            divisor = rest;
            rest = next;
        }
        return divisor == 0 ? 1 : divisor;
    }

    private static int stepsBehind(int way, int notch) {
        return (way - notch) & (WAYS - 1);
    }

    private static int alongOf(int way, int notch) {
        int steps = stepsBehind(way, notch);
        return 2 - Math.min(steps, WAYS - steps);
    }

    private static int sideOf(int way, int notch) {
        int steps = stepsBehind(way, notch);
        if (steps == 0 || steps == WAYS / 2) {
            return 0;
        }
        return steps < WAYS / 2 ? 1 : -1;
    }

    /** The next PLACE a WAY, or NONE off THE FIELD. */
    private static int nextPlace(int place, int way) {
        int row = place / ROW + ROWS_ON[way & (WAYS - 1)];
        int column = place % ROW + COLUMNS_ON[way & (WAYS - 1)];
        return outside(row, ROW - 1) || outside(column, ROW - 1) ? NONE : ROW * row + column;
    }

    private static long stepsFrom(int place) {
        long places = 0;
        for (int way = 0; way < WAYS; way++) {
            int next = nextPlace(place, way);
            places |= next == NONE ? 0 : 1L << next;
        }
        return places;
    }

    private static int kindAbove(int kind) {
        return outside(kind, KINDS - 1) ? NONE : KIND_ABOVE[kind];
    }

    /** One TREE with its PLAN. */
    private static final class Tree {
        int number, kind, v, place, height, lean, leanWay, hollow;
        boolean standing;
        final int[] plan = new int[PARTS];

        void begin(int number, int kind, int v, int place, int height) {
            this.number = number;
            this.kind = kind;
            this.v = v;
            this.place = place;
            this.height = height;
            lean = 0;
            leanWay = 0;
            hollow = 0;
            standing = true;
            for (int part = 0; part < PARTS; part++) {
                plan[part] = 0;
            }
        }

        void copyFrom(Tree other) {
            begin(other.number, other.kind, other.v, other.place, other.height);
            lean = other.lean;
            leanWay = other.leanWay;
            hollow = other.hollow;
            standing = other.standing;
            System.arraycopy(other.plan, 0, plan, 0, PARTS);
        }
    }

    /** All that THE IMAGE keeps. */
    private static final class Ground {
        long things;
        int odds, signs, woods, planted, tellings;
        final byte[] tape = new byte[MOST_SIGNS];
        final int[] book = new int[MOST_TREES];
        final Wood wood = new Wood();
        final Tree[] trees = new Tree[MOST_TREES];

        Ground() {
            for (int number = 0; number < MOST_TREES; number++) {
                trees[number] = new Tree();
            }
        }

        void copyFrom(Ground other) {
            things = other.things;
            odds = other.odds;
            signs = other.signs;
            woods = other.woods;
            planted = other.planted;
            tellings = other.tellings;
            System.arraycopy(other.tape, 0, tape, 0, MOST_SIGNS);
            System.arraycopy(other.book, 0, book, 0, MOST_TREES);
            wood.copyFrom(other.wood);
            for (int number = 0; number < planted; number++) {
                trees[number].copyFrom(other.trees[number]);
            }
        }

        /** The TREE of a number, or null. */
        Tree find(int number) {
            return outside(number, planted - 1) ? null : trees[number];
        }

        /** A TREE that has gone keeps its PLACE. */
        boolean isTaken(int place) {
            for (int number = 0; number < planted; number++) {
                if (trees[number].place == place) {
                    return true;
                }
            }
            return false;
        }

        /** TREES that are STANDING, as bits. */
        int standingTrees() {
            int standing = 0;
            for (int number = 0; number < planted; number++) {
                standing |= trees[number].standing ? bitOf(number) : 0;
            }
            return standing;
        }

        long standingPlaces() {
            long places = 0;
            for (int number = 0; number < planted; number++) {
                places |= trees[number].standing ? 1L << trees[number].place : 0;
            }
            return places;
        }

        /** Of TREES (as bits) that on a PLACE, or NOT_ANY. */
        int whichOn(int place, int among) {
            for (int number = 0; number < planted; number++) {
                if ((among & bitOf(number)) != 0 && trees[number].place == place) {
                    return number;
                }
            }
            return NOT_ANY;
        }

        /** How likely a GUST of a WAY is, or CALM, by 80; 0, if it may not come. */
        int weightOf(int gust) {
            return gust == CALM ? WAYS * (TEN - odds) : odds;
        }
    }

    /** The CLAUSES of a WOOD; each E as signs behind one another, a TEST ahead of what joins it. */
    private static final class Wood {
        static final int HOLD = 0, SPLIT_AT = 1, WIND = 2, WEDGE = 3, ROPE = 4;
        static final int NOT = -1, AND = -2, OR = -3;
        static final int RELATION = 128, LETTER = 512;
        static final int WEDGE_WITHOUT = 3, ROPE_WITHOUT = 2;

        int clauses, size, wedge, rope;
        final int[] word = new int[MOST_CLAUSES];
        final int[] amount = new int[MOST_CLAUSES];
        final int[] end = new int[MOST_CLAUSES];
        final int[] code = new int[MOST_SIGNS];

        Wood() {
            clear();
        }

        void clear() {
            clauses = 0;
            size = 0;
            wedge = WEDGE_WITHOUT;
            rope = ROPE_WITHOUT;
        }

        void copyFrom(Wood other) {
            clauses = other.clauses;
            size = other.size;
            wedge = other.wedge;
            rope = other.rope;
            System.arraycopy(other.word, 0, word, 0, MOST_CLAUSES);
            System.arraycopy(other.amount, 0, amount, 0, MOST_CLAUSES);
            System.arraycopy(other.end, 0, end, 0, MOST_CLAUSES);
            System.arraycopy(other.code, 0, code, 0, MOST_SIGNS);
        }

        void put(int sign) {
            if (size < MOST_SIGNS) {
                code[size] = sign;
                size++;
            }
        }

        /** Ends a CLAUSE whose E has been put. */
        void close(int which, int n) {
            if (clauses < MOST_CLAUSES) {
                word[clauses] = which;
                amount[clauses] = n;
                end[clauses] = size;
                clauses++;
            }
        }

        /** The n of all CLAUSES of a word whose E holds, together. */
        int total(int which, Tree tree, int way) {
            int sum = 0;
            int from = 0;
            for (int clause = 0; clause < clauses; clause++) {
                if (word[clause] == which && isMet(from, end[clause], tree, way)) {
                    sum += amount[clause];
                }
                from = end[clause];
            }
            return sum;
        }

        /** What waits is kept as bits, the newest lowest: five open ones leave fewer than 16 waiting. */
        private boolean isMet(int from, int to, Tree tree, int way) {
            int waiting = 0;
            for (int i = from; i < to && i < MOST_SIGNS; i++) {
                int newest = waiting & 1;
                int older = waiting >>> 1;
                switch (code[i]) {
                    case NOT: waiting ^= 1; break;
                    case AND: waiting = newest == 1 ? older : older & ~1; break;
                    case OR: waiting = older | newest; break;
                    default: waiting = waiting << 1 | result(code[i], valueOf(code[i], tree, way)); break;
                }
            }
            return (waiting & 1) == 1;
        }

        /** 1, if a TEST holds for a value, else 0. */
        private static int result(int test, int value) {
            int n = test % RELATION;
            boolean holds;
            switch (test % LETTER / RELATION) {
                case 0: holds = value < n; break;
                case 1: holds = value == n; break;
                default: holds = value > n; break;
            }
            return holds ? 1 : 0;
        }

        /** What a TEST looks at: its letters in the row in which the Reader has them. */
        private static int valueOf(int test, Tree tree, int way) {
            switch (test / LETTER) {
                case 0: return tree.number;
                case 1: return tree.kind;
                case 2: return tree.height;
                case 3: return tree.lean;
                case 4: return tree.hollow;
                default: return way;
            }
        }
    }

    /** Reads a WOOD. Each step stays at the first byte that does not fit: that is the FAULT. */
    private static final class Reader {
        static final String LETTERS = "tkhlow", RELATIONS = "<=>", DIGITS = "0123456789";

        final Wood draft = new Wood();
        private final byte[] text = new byte[MOST_SIGNS];
        private int size;
        int at;

        boolean reads(byte[] tape, int signs) {
            System.arraycopy(tape, 0, text, 0, MOST_SIGNS);
            size = signs;
            at = 0;
            draft.clear();
            for (int clause = 0; clause < MOST_CLAUSES; clause++) {
                if (clause > 0 && !takes(';')) {
                    return false;
                }
                if (!clause()) {
                    return false;
                }
                if (at == size) {
                    return true;
                }
            }
            return false;
        }

        private int next() {
            return at < size && at < MOST_SIGNS ? text[at] : NONE;
        }

        private boolean takes(char sign) {
            if (next() != sign) {
                return false;
            }
            at++;
            return true;
        }

        private boolean takesAll(String signs) {
            for (int i = 0; i < signs.length(); i++) {
                if (!takes(signs.charAt(i))) {
                    return false;
                }
            }
            return true;
        }

        /** Which of some signs comes, or NONE. */
        private int takesOne(String signs) {
            int sign = next();
            int which = sign == NONE ? NONE : signs.indexOf((char) sign);
            at += which == NONE ? 0 : 1;
            return which;
        }

        private boolean clause() {
            int word = word();
            if (word == NONE || !takes(' ')) {
                return false;
            }
            int n = number();
            if (n == NONE) {
                return false;
            }
            if (word == Wood.WEDGE) {
                draft.wedge = n;
                return true;
            }
            if (word == Wood.ROPE) {
                draft.rope = n;
                return true;
            }
            if (!takes(' ') || !either(0)) {
                return false;
            }
            draft.close(word, n);
            return true;
        }

        /** Which word comes, or NONE; with w two of them begin. */
        private int word() {
            switch (next()) {
                case 'h': return takesAll("hold") ? Wood.HOLD : NONE;
                case 's': return takesAll("split") ? Wood.SPLIT_AT : NONE;
                case 'r': return takesAll("rope") ? Wood.ROPE : NONE;
                case 'w':
                    at++;
                    if (next() == 'i') {
                        return takesAll("ind") ? Wood.WIND : NONE;
                    }
                    return takesAll("edge") ? Wood.WEDGE : NONE;
                default: return NONE;
            }
        }

        private int number() {
            int first = takesOne(DIGITS);
            if (first == NONE || first == 0) {
                return first;
            }
            int second = takesOne(DIGITS);
            return second == NONE ? first : 10 * first + second;
        }

        /** E, inside so many open ones. */
        private boolean either(int open) {
            if (!both(open)) {
                return false;
            }
            for (int i = 0; i < MOST_SIGNS && takes('|'); i++) {
                if (!both(open)) {
                    return false;
                }
                draft.put(Wood.OR);
            }
            return true;
        }

        /** T. */
        private boolean both(int open) {
            if (!single(open)) {
                return false;
            }
            for (int i = 0; i < MOST_SIGNS && takes('&'); i++) {
                if (!single(open)) {
                    return false;
                }
                draft.put(Wood.AND);
            }
            return true;
        }

        /** F. */
        private boolean single(int open) {
            int sign = next();
            if (sign != '!' && sign != '(') {
                return test();
            }
            if (open >= MOST_OPEN) {
                return false;
            }
            at++;
            if (sign == '(') {
                return either(open + 1) && takes(')');
            }
            if (!single(open + 1)) {
                return false;
            }
            draft.put(Wood.NOT);
            return true;
        }

        private boolean test() {
            int letter = takesOne(LETTERS);
            if (letter == NONE) {
                return false;
            }
            int relation = takesOne(RELATIONS);
            if (relation == NONE) {
                return false;
            }
            int n = number();
            if (n == NONE) {
                return false;
            }
            draft.put(Wood.LETTER * letter + Wood.RELATION * relation + n);
            return true;
        }
    }

    /** How one TREE goes, by its PLAN and perhaps a GUST. */
    private static final class Course {
        int forward, aside, strength, splitsAt, how, way, hangsOn;
        long liesOn;
        private int hold, splitLimit;

        /** All of it, among those that are STANDING. */
        void run(Ground ground, Tree tree, int gust) {
            decide(ground.wood, tree, gust);
            lay(ground, tree, ground.standingTrees());
        }

        /** HOW and the WAY. */
        void decide(Wood wood, Tree tree, int gust) {
            weigh(wood, tree);
            push(wood, tree, gust);
        }

        /** What STRIP, WEDGES and PULL do not change, so that many of them are tried by one weighing. */
        void weigh(Wood wood, Tree tree) {
            int notch = tree.plan[NOTCH];
            hold = 1 + wood.total(Wood.HOLD, tree, notch);
            splitLimit = Math.max(0, 40 - wood.total(Wood.SPLIT_AT, tree, notch));
        }

        /** HOW and the WAY of a TREE that has been weighed. */
        void push(Wood wood, Tree tree, int gust) {
            int[] plan = tree.plan;
            int notch = plan[NOTCH];
            int pull = wood.rope * plan[PULL];
            int strip = plan[LEFT] + plan[RIGHT];
            forward = tree.lean * alongOf(tree.leanWay, notch) + wood.wedge * plan[WEDGES]
                + pull * alongOf(plan[ROPE_WAY], notch);
            aside = tree.lean * sideOf(tree.leanWay, notch) + plan[RIGHT] - plan[LEFT]
                + pull * sideOf(plan[ROPE_WAY], notch);
            if (gust != CALM) {
                int wind = wood.total(Wood.WIND, tree, gust);
                forward += wind * alongOf(gust, notch);
                aside += wind * sideOf(gust, notch);
            }
            strength = hold * strip - tree.hollow * strip / 10;
            splitsAt = splitLimit;
            changeByKind(tree.kind, tree.v);
            how = howItGoes();
            way = wayItGoes(notch);
        }

        private void changeByKind(int kind, int v) {
            if ((kind == TRUE || kind == HUNG) && Math.abs(aside) <= v) {
                aside = 0;
            }
            if (kind == SWUNG || kind == TORN) {
                aside += v;
            }
            if (kind == TORN) {
                strength = Math.max(0, strength - v);
            }
            if (kind == SAT || kind == SPLIT) {
                forward -= v;
            }
            if (kind == SPLIT) {
                splitsAt = Math.max(0, splitsAt - v);
            }
        }

        private int howItGoes() {
            int pressed = Math.abs(aside);
            if (forward < 0) {
                return SITS_BACK;
            }
            if (forward > splitsAt) {
                return SPLITS;
            }
            if (pressed > strength) {
                return TORN_OFF;
            }
            return 2 * pressed > strength ? GOES_SWUNG : GOES_TRUE;
        }

        private int wayItGoes(int notch) {
            int turn = aside > 0 ? 1 : -1;
            switch (how) {
                case SITS_BACK: return NOT_ANY;
                case GOES_SWUNG: return notch + turn & (WAYS - 1);
                case TORN_OFF: return notch + 2 * turn & (WAYS - 1);
                default: return notch;
            }
        }

        /** Where a TREE comes to lie whose WAY is decided, among TREES (as bits). */
        void lay(Ground ground, Tree tree, int among) {
            liesOn = 0;
            hangsOn = NOT_ANY;
            int length = how == SITS_BACK ? 0 : how == SPLITS ? tree.height - 1 : tree.height;
            int place = nextPlace(tree.place, way);
            for (int step = 0; step < length && place != NONE; step++) {
                hangsOn = ground.whichOn(place, among);
                if (hangsOn != NOT_ANY) {
                    return;
                }
                liesOn |= 1L << place;
                place = nextPlace(place, way);
            }
        }
    }

    /** The BODIES of ACTS, each from a KIND on, and THE TRACE. */
    private static final class Bodies {
        final int[] began = new int[MOST_TRACE];
        int ran;

        private void begin(int body) {
            if (ran < MOST_TRACE) {
                began[ran] = body;
            }
            ran++;
        }

        /** 0, if there is no such act. */
        int run(Tree tree, int act, int x) {
            switch (act) {
                case 0: return leans(tree, tree.kind, x);
                case 1: return holds(tree, tree.kind, x);
                case 2: return tells(tree, tree.kind, x);
                default: return 0;
            }
        }

        private int leans(Tree tree, int kind, int x) {
            switch (kind) {
                case TRUE:
                case HUNG:
                    begin(11);
                    return leans(tree, FALL, x * 3);
                case TORN:
                    begin(51);
                    return leans(tree, SWUNG, x) ^ tree.number;
                default:
                    begin(1);
                    return x + tree.number;
            }
        }

        private int holds(Tree tree, int kind, int x) {
            switch (kind) {
                case SWUNG:
                case TORN:
                    begin(21);
                    return -holds(tree, FALL, x);
                case SPLIT:
                    begin(61);
                    return holds(tree, SAT, x) + tree.v;
                default:
                    begin(2);
                    return leans(tree, tree.kind, x) - tree.v;
            }
        }

        private int tells(Tree tree, int kind, int x) {
            switch (kind) {
                case SAT:
                case SPLIT:
                    begin(31);
                    return tells(tree, FALL, x) ^ 7;
                case HUNG:
                    begin(41);
                    int told = tells(tree, TRUE, x - 1);
                    return told + leans(tree, tree.kind, 2);
                default:
                    begin(3);
                    return holds(tree, tree.kind, x) * 2;
            }
        }
    }
}
