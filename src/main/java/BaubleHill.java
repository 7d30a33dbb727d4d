/** A fir hung with balls; what each call answers stands in the numbered promises of ../shared/DOC.md. */
public final class BaubleHill {
    public static final int NONE = -6, UNKNOWN = -1, OUTSIDE = -2, STATE = -3, FULL = -4, NO = -5;
    public static final long LOST = -1000000000000000000L;

    private static final int LOOPS = 12, BALLS = 6, ALL_LOOPS = (1 << LOOPS) - 1;
    private static final int CHIPS_THAT_BREAK = 9, LAST_WINTER = 99;
    private static final int SIGNS = 60, FIRST_SIGN = 33, LAST_SIGN = 126;
    private static final int SIGHTS = 8, FARTHEST = 11;
    private static final int TISSUES = 40, LAST_SEED = 9999, ACTS_OF_A_YEAR = 99;
    private static final int PACKED = -1;

    private final Hill hill = new Hill();
    private final Sights sights = new Sights();
    private final Pad pad = new Pad();
    private final Telling telling = new Telling();
    private final Choice choice = new Choice();
    private final Cutting cutting = new Cutting();
    private final Year years = new Year();
    private final Image firstImage = new Image();
    private final Image secondImage = new Image();

    public BaubleHill() {
    }

    // ---- 1 branches, balls, winters

    public int branch(int loop, int parent) {
        if (!isLoop(loop) || !isLoop(parent) || loop == 0) return UNKNOWN;
        if (parent >= loop) return OUTSIDE;
        int was = hill.tree().parentOf(loop);
        hill.tree().bend(loop, parent);
        return was;
    }

    public int ball(int ball, int loop, int chips) {
        if (!isBall(ball) || loop != PACKED && !isLoop(loop)) return UNKNOWN;
        if (chips < 0 || chips >= CHIPS_THAT_BREAK) return OUTSIDE;
        if (loop != PACKED && hill.anotherHangs(ball, loop)) return STATE;
        int was = hill.loopOf(ball);
        hill.put(ball, loop == PACKED ? NONE : loop, chips);
        return was;
    }

    public int say(int sign) {
        if (sign < FIRST_SIGN || sign > LAST_SIGN) return OUTSIDE;
        if (pad.size() >= SIGNS) return FULL;
        pad.add(sign);
        return pad.size();
    }

    public int wipe() {
        int were = pad.size();
        pad.clear();
        return were;
    }

    public int fault() {
        return pad.firstWrong();
    }

    // ---- 2 winters

    public int judge(int what) {
        if (what < 0 || what > 1) return OUTSIDE;
        if (pad.firstWrong() != NONE) return NO;
        if (telling.tell(pad, hill)) return NONE;
        return what == 0 ? telling.acts() : telling.why();
    }

    public int done() {
        if (!telling.tell(pad, hill)) return NO;
        hill.copyFrom(telling.hill());
        pad.clear();
        return telling.acts();
    }

    public int behind(int ball, int what) {
        if (!isBall(ball)) return UNKNOWN;
        if (what < 0 || what > 2) return OUTSIDE;
        if (!telling.tell(pad, hill)) return NO;
        switch (what) {
            case 0: return telling.hill().loopOf(ball);
            case 1: return telling.hill().chipsOf(ball);
            default: return telling.hill().isBroken(ball) ? 1 : 0;
        }
    }

    public int then(int what) {
        if (what < 0 || what > 5) return OUTSIDE;
        if (!telling.tell(pad, hill)) return NO;
        switch (what) {
            case 0: return telling.hill().hungLoops();
            case 1: return telling.hill().brokenBalls();
            case 2: return telling.hill().allChips() - hill.allChips();
            case 3: return telling.hill().winter();
            case 4: return telling.actThatBroke();
            default: return telling.ballThatBroke();
        }
    }

    public int apart(int a, int b) {
        if (!isLoop(a) || !isLoop(b)) return UNKNOWN;
        return hill.tree().distance(a, b);
    }

    public int meets(int a, int b) {
        if (!isLoop(a) || !isLoop(b)) return UNKNOWN;
        // A PARENT is of less number, so the top of a way is its least LOOP.
        return memberAt(hill.tree().way(a, b), 0);
    }

    public int sees(int ball) {
        if (!isBall(ball)) return UNKNOWN;
        if (hill.loopOf(ball) == NONE) return STATE;
        return hill.seenFrom(ball);
    }

    // ---- 3 nearness, room, candles

    public int near(int what) {
        if (what < 0 || what > 3) return OUTSIDE;
        int hung = hill.hungLoops();
        if (hung == 0) return NONE;
        boolean byFarthest = what >= 2;
        int best = 0;
        int least = hill.tree().howFar(0, hung, byFarthest);
        for (int loop = 1; loop < LOOPS; loop++) {
            int much = hill.tree().howFar(loop, hung, byFarthest);
            if (much < least) {
                best = loop;
                least = much;
            }
        }
        return what == 0 || what == 2 ? best : least;
    }

    public int room(int s, int what) {
        if (s < 0 || s > FARTHEST || what < 0 || what > 1) return OUTSIDE;
        int set = choice.mostApart(hill.tree(), s);
        return what == 0 ? Integer.bitCount(set) : set;
    }

    public int candles(int r, int what) {
        if (r < 0 || r > FARTHEST || what < 0 || what > 1) return OUTSIDE;
        int set = choice.fewestLighting(hill.tree(), r);
        return what == 0 ? Integer.bitCount(set) : set;
    }

    // ---- 4 where, cutting, tissue

    public int seen(int loop, int v) {
        if (!isLoop(loop)) return UNKNOWN;
        if (v < 0 || v > FARTHEST) return OUTSIDE;
        if (sights.size() >= SIGHTS) return FULL;
        sights.add(loop, v);
        return sights.size();
    }

    public int forget() {
        int were = sights.size();
        sights.clear();
        return were;
    }

    public int where(int i) {
        int fitting = sights.fitting(hill.tree());
        return i == -1 ? Integer.bitCount(fitting) : memberAt(fitting, i);
    }

    public int ask(int what) {
        if (what < 0 || what > 1) return OUTSIDE;
        int fitting = sights.fitting(hill.tree());
        if (fitting == 0) return NONE;
        int best = 0;
        int fewest = hill.tree().mostLeft(0, fitting);
        for (int loop = 1; loop < LOOPS; loop++) {
            int left = hill.tree().mostLeft(loop, fitting);
            if (left < fewest) {
                best = loop;
                fewest = left;
            }
        }
        return what == 0 ? best : fewest;
    }

    public int cut(int what) {
        if (what < 0 || what > 1) return OUTSIDE;
        if (what == 0) return cutting.worth(hill.tree(), 0) != 0 ? 1 : 0;
        for (int loop = 1; loop < LOOPS; loop++) {
            if (cutting.worth(hill.tree(), loop) == 0) return loop;
        }
        return NONE;
    }

    public long tissue(int n, int r, int k, int j, int what, int part) {
        boolean counts = n >= 0 && n <= TISSUES && r >= 0 && r <= n && k >= 0 && k <= n && j >= 0 && j <= k;
        if (!counts || what < 0 || what > 1 || part < 0 || part > 1) return LOST + OUTSIDE;
        if (what == 0) return Chance.lowest(Chance.waysAtLeast(n, r, k, j), Chance.ways(n, k), part);
        // Of no BALLS none are red, and none by none is no fraction.
        return Chance.lowest((long) k * r, Math.max(n, 1), part);
    }

    public int year(int seed, int m, int what) {
        if (seed < 0 || seed > LAST_SEED || m < 1 || m > ACTS_OF_A_YEAR || what < 0 || what > 2) return OUTSIDE;
        Hill after = years.pass(hill, seed, m);
        switch (what) {
            case 0: return Integer.bitCount(after.hungLoops());
            case 1: return after.allChips();
            default: return Integer.bitCount(after.brokenBalls());
        }
    }

    public int image(int n) {
        if (n < 0 || n > 1) return OUTSIDE;
        imageOf(n).keep(hill, sights);
        return 1;
    }

    public int restore(int n) {
        if (n < 0 || n > 1) return OUTSIDE;
        if (!imageOf(n).isKept()) return STATE;
        imageOf(n).bringBack(hill, sights);
        return 1;
    }

    public int told(int what) {
        if (isLoop(what - 10)) return what == 10 ? NONE : hill.tree().parentOf(what - 10);
        if (isBall(what - 30)) return hill.loopOf(what - 30);
        if (isBall(what - 40)) return hill.chipsOf(what - 40);
        switch (what) {
            case 0: return pad.size();
            case 1: return hill.hungLoops();
            case 2: return hill.brokenBalls();
            case 3: return hill.winter();
            case 4: return sights.size();
            default: return OUTSIDE;
        }
    }

    private Image imageOf(int n) {
        return n == 0 ? firstImage : secondImage;
    }

    private static boolean isLoop(int loop) {
        return loop >= 0 && loop < LOOPS;
    }

    private static boolean isBall(int ball) {
        return ball >= 0 && ball < BALLS;
    }

    private static boolean holds(int bits, int i) {
        return (bits >> i & 1) != 0;
    }

    /** The i-th number of a set, from 0 on and rising; NONE if it has no such one. */
    private static int memberAt(int bits, int i) {
        int before = 0;
        for (int number = 0; number < LOOPS; number++) {
            if (!holds(bits, number)) continue;
            if (before == i) return number;
            before++;
        }
        return NONE;
    }

    private static void copyRow(int[] from, int[] to) {
        for (int i = 0; i < from.length && i < to.length; i++) to[i] = from[i];
    }

    /** LOOPS and their BRANCHES. A PARENT is always of less number. */
    private static final class Tree {
        private final int[] parents = new int[LOOPS];

        Tree() {
            for (int loop = 1; loop < parents.length; loop++) parents[loop] = (loop - 1) / 2;
        }

        int parentOf(int loop) {
            return loop >= 0 && loop < parents.length ? parents[loop] : 0;
        }

        void bend(int loop, int parent) {
            if (loop >= 0 && loop < parents.length) parents[loop] = parent;
        }

        void copyFrom(Tree other) {
            copyRow(other.parents, parents);
        }

        int distance(int a, int b) {
            int far = 0;
            int low = Math.min(a, b);
            int high = Math.max(a, b);
            for (int step = 0; step < 2 * LOOPS && low != high; step++) {
                // The greater one can not be above the other, so the way goes by its PARENT.
                int up = parentOf(high);
                high = Math.max(low, up);
                low = Math.min(low, up);
                far++;
            }
            return far;
        }

        /** The LOOPS of the way from one to the other, both of them too, as bits. */
        int way(int a, int b) {
            int length = distance(a, b);
            int bits = 0;
            for (int loop = 0; loop < LOOPS; loop++) {
                if (distance(a, loop) + distance(loop, b) == length) bits |= 1 << loop;
            }
            return bits;
        }

        /** The LOOPS that are APART from one by least to most, as bits. */
        int ring(int loop, int least, int most) {
            int bits = 0;
            for (int other = 0; other < LOOPS; other++) {
                int far = distance(loop, other);
                if (far >= least && far <= most) bits |= 1 << other;
            }
            return bits;
        }

        /** By how much a LOOP is APART from those of a set: from the farthest, or from all together. */
        int howFar(int loop, int set, boolean byFarthest) {
            int much = 0;
            for (int other = 0; other < LOOPS; other++) {
                if (!holds(set, other)) continue;
                int far = distance(loop, other);
                much = byFarthest ? Math.max(much, far) : much + far;
            }
            return much;
        }

        /** How many of a set are left at the most once it is known how far it is from a LOOP. */
        int mostLeft(int loop, int set) {
            int most = 0;
            for (int far = 0; far <= FARTHEST; far++) {
                most = Math.max(most, Integer.bitCount(ring(loop, far, far) & set));
            }
            return most;
        }
    }

    /** One ACT of WINTERS, from the PAD or from a draw. */
    private static final class Act {
        static final int HANG = 0, PACK = 1, DRAUGHT = 2, BEND = 3, WINTER = 4, NOTHING = 5;

        private int kind = NOTHING;
        private int one = 0;
        private int other = 0;

        void set(int newKind, int newOne, int newOther) {
            kind = newKind;
            one = newOne;
            other = newOther;
        }

        int kind() {
            return kind;
        }

        /** The BALL that is hung or packed, how far a draught goes, or the LOOP whose BRANCH is bent. */
        int one() {
            return one;
        }

        /** The LOOP on which the BALL is hung, or to which the BRANCH is bent. */
        int other() {
            return other;
        }
    }

    /** The tree, the BALLS and the winter: all that ACTS change. */
    private static final class Hill {
        private static final int IS_BROKEN = 1, TAKEN = 2, SO_ALREADY = 3, NO_TWO = 4, NO_BRANCH = 5, NO_WINTER = 6;

        private final Tree tree = new Tree();
        private final int[] loops = new int[BALLS];
        private final int[] chips = new int[BALLS];
        private int broken = 0;
        private int winter = 0;

        Hill() {
            for (int ball = 0; ball < loops.length; ball++) loops[ball] = NONE;
        }

        Tree tree() {
            return tree;
        }

        int loopOf(int ball) {
            return ball >= 0 && ball < loops.length ? loops[ball] : NONE;
        }

        int chipsOf(int ball) {
            return ball >= 0 && ball < chips.length ? chips[ball] : 0;
        }

        boolean isBroken(int ball) {
            return holds(broken, ball);
        }

        int brokenBalls() {
            return broken;
        }

        int winter() {
            return winter;
        }

        int hungLoops() {
            int bits = 0;
            for (int ball = 0; ball < loops.length; ball++) {
                if (loops[ball] != NONE) bits |= 1 << loops[ball];
            }
            return bits;
        }

        int allChips() {
            int sum = 0;
            for (int ball = 0; ball < chips.length; ball++) sum += chips[ball];
            return sum;
        }

        boolean anotherHangs(int ball, int loop) {
            return loopOf(ball) != loop && holds(hungLoops(), loop);
        }

        /** A BALL that is whole hangs on a LOOP, or on NONE. */
        void put(int ball, int loop, int newChips) {
            if (ball < 0 || ball >= loops.length || ball >= chips.length) return;
            loops[ball] = loop;
            chips[ball] = newChips;
            broken &= ~(1 << ball);
        }

        void copyFrom(Hill other) {
            tree.copyFrom(other.tree);
            copyRow(other.loops, loops);
            copyRow(other.chips, chips);
            broken = other.broken;
            winter = other.winter;
        }

        int seenFrom(int ball) {
            int from = loopOf(ball);
            int hung = hungLoops();
            int bits = 0;
            for (int other = 0; other < BALLS; other++) {
                int to = loopOf(other);
                if (other == ball || to == NONE) continue;
                int ends = 1 << from | 1 << to;
                if ((tree.way(from, to) & hung) == ends) bits |= 1 << other;
            }
            return bits;
        }

        /** Why an ACT can not be, the least reason; 0 if it can. */
        int whyNot(Act act) {
            switch (act.kind()) {
                case Act.HANG:
                    if (isBroken(act.one())) return IS_BROKEN;
                    if (anotherHangs(act.one(), act.other())) return TAKEN;
                    return loopOf(act.one()) == act.other() ? SO_ALREADY : 0;
                case Act.PACK:
                    if (isBroken(act.one())) return IS_BROKEN;
                    return loopOf(act.one()) == NONE ? SO_ALREADY : 0;
                case Act.DRAUGHT:
                    return Integer.bitCount(hungLoops()) < 2 ? NO_TWO : 0;
                case Act.BEND:
                    if (act.other() >= act.one()) return NO_BRANCH;
                    return tree.parentOf(act.one()) == act.other() ? NO_BRANCH : 0;
                case Act.WINTER:
                    return winter >= LAST_WINTER ? NO_WINTER : 0;
                default:
                    return 0;
            }
        }

        /** Does an ACT that can be. */
        void follow(Act act) {
            switch (act.kind()) {
                case Act.HANG:
                    put(act.one(), act.other(), chipsOf(act.one()));
                    break;
                case Act.PACK:
                    put(act.one(), NONE, chipsOf(act.one()));
                    break;
                case Act.DRAUGHT:
                    blow(act.one());
                    break;
                case Act.BEND:
                    tree.bend(act.one(), act.other());
                    break;
                case Act.WINTER:
                    packAll();
                    winter++;
                    break;
                default:
                    break;
            }
        }

        private void blow(int reach) {
            // All at once: a BALL that breaks has touched its neighbours still.
            int hung = hungLoops();
            for (int ball = 0; ball < loops.length; ball++) {
                int loop = loops[ball];
                if (loop == NONE) continue;
                chip(ball, Integer.bitCount(tree.ring(loop, 1, reach) & hung));
            }
        }

        private void chip(int ball, int more) {
            int sum = Math.min(chipsOf(ball) + more, CHIPS_THAT_BREAK);
            if (sum < CHIPS_THAT_BREAK) {
                put(ball, loopOf(ball), sum);
            } else {
                put(ball, NONE, sum);
                broken |= 1 << ball;
            }
        }

        private void packAll() {
            for (int ball = 0; ball < loops.length; ball++) loops[ball] = NONE;
        }
    }

    /** The text of WINTERS. */
    private static final class Pad {
        private final int[] signs = new int[SIGNS];
        private int count = 0;

        int size() {
            return count;
        }

        void add(int sign) {
            if (count < 0 || count >= signs.length) return;
            signs[count] = sign;
            count++;
        }

        void clear() {
            count = 0;
        }

        /** THE FAULT, or NONE. */
        int firstWrong() {
            int head = 0;
            int due = 0;
            for (int place = 0; place < count && place < signs.length; place++) {
                int sign = signs[place];
                if (due > 0) {
                    if (!mayFollow(head, sign)) return place;
                    due--;
                } else {
                    if (!isHead(sign)) return place;
                    head = sign;
                    due = signsAfter(sign);
                }
            }
            return due > 0 ? count : NONE;
        }

        /** Reads the ACT that begins at a place of a text without a FAULT; the place behind it. */
        int read(int place, Act act) {
            int head = signAt(place);
            int next = signAt(place + 1);
            if (isBallLetter(head)) {
                if (next == '_') act.set(Act.PACK, head - 'A', 0);
                else act.set(Act.HANG, head - 'A', next - 'a');
            } else if (head == 'd') {
                act.set(Act.DRAUGHT, next - '0', 0);
            } else if (head == 'b') {
                act.set(Act.BEND, next - 'a', signAt(place + 2) - 'a');
            } else {
                act.set(Act.WINTER, 0, 0);
            }
            return place + 1 + signsAfter(head);
        }

        private int signAt(int place) {
            return place >= 0 && place < count && place < signs.length ? signs[place] : 0;
        }

        private static boolean isHead(int sign) {
            return isBallLetter(sign) || sign == 'd' || sign == 'b' || sign == '.';
        }

        private static int signsAfter(int head) {
            if (head == 'b') return 2;
            return head == '.' ? 0 : 1;
        }

        private static boolean mayFollow(int head, int sign) {
            if (head == 'd') return sign >= '1' && sign <= '9';
            return isLoop(sign - 'a') || isBallLetter(head) && sign == '_';
        }

        private static boolean isBallLetter(int sign) {
            return isBall(sign - 'A');
        }
    }

    /** WINTERS followed on a hill of their own, so that nothing is DONE. */
    private static final class Telling {
        private final Hill hill = new Hill();
        private final Act act = new Act();
        private int acts = 0;
        private int why = 0;
        private int actThatBroke = NONE;
        private int ballThatBroke = NONE;

        /** Follows a text up to its end, or to the first ACT that can not be: whether it has no FAULT and all can. */
        boolean tell(Pad pad, Hill from) {
            hill.copyFrom(from);
            acts = 0;
            why = 0;
            actThatBroke = NONE;
            ballThatBroke = NONE;
            if (pad.firstWrong() != NONE) return false;
            int place = 0;
            for (int turn = 0; turn < SIGNS && place < pad.size(); turn++) {
                place = pad.read(place, act);
                why = hill.whyNot(act);
                if (why != 0) return false;
                int before = hill.brokenBalls();
                hill.follow(act);
                noteBroken(hill.brokenBalls() & ~before);
                acts++;
            }
            return true;
        }

        private void noteBroken(int fresh) {
            if (fresh == 0 || actThatBroke != NONE) return;
            actThatBroke = acts;
            ballThatBroke = memberAt(fresh, 0);
        }

        Hill hill() {
            return hill;
        }

        /** The ACTS that were followed: the number, too, of the one that can not be. */
        int acts() {
            return acts;
        }

        int why() {
            return why;
        }

        int actThatBroke() {
            return actThatBroke;
        }

        int ballThatBroke() {
            return ballThatBroke;
        }
    }

    /** Sets of LOOPS, tried in the order of their bits, so that the first best one is the least. */
    private static final class Choice {
        private final int[] around = new int[LOOPS];

        int mostApart(Tree tree, int s) {
            lookAround(tree, s);
            int best = 0;
            int most = 0;
            for (int set = 1; set <= ALL_LOOPS; set++) {
                int size = Integer.bitCount(set);
                if (size > most && standsApart(set)) {
                    best = set;
                    most = size;
                }
            }
            return best;
        }

        int fewestLighting(Tree tree, int r) {
            lookAround(tree, r);
            int best = ALL_LOOPS;
            int fewest = LOOPS;
            for (int set = 1; set < ALL_LOOPS; set++) {
                int size = Integer.bitCount(set);
                if (size < fewest && lightsAll(set)) {
                    best = set;
                    fewest = size;
                }
            }
            return best;
        }

        private void lookAround(Tree tree, int reach) {
            for (int loop = 0; loop < around.length; loop++) around[loop] = tree.ring(loop, 0, reach);
        }

        private boolean standsApart(int set) {
            for (int loop = 0; loop < around.length; loop++) {
                if (holds(set, loop) && (around[loop] & set) != 1 << loop) return false;
            }
            return true;
        }

        private boolean lightsAll(int set) {
            int lit = 0;
            for (int loop = 0; loop < around.length; loop++) {
                if (holds(set, loop)) lit |= around[loop];
            }
            return lit == ALL_LOOPS;
        }
    }

    /** SIGHTS of the one whose LOOP is not known. */
    private static final class Sights {
        private final int[] loops = new int[SIGHTS];
        private final int[] fars = new int[SIGHTS];
        private int count = 0;

        int size() {
            return count;
        }

        void add(int loop, int far) {
            if (count < 0 || count >= loops.length || count >= fars.length) return;
            loops[count] = loop;
            fars[count] = far;
            count++;
        }

        void clear() {
            count = 0;
        }

        void copyFrom(Sights other) {
            copyRow(other.loops, loops);
            copyRow(other.fars, fars);
            count = other.count;
        }

        /** The LOOPS by which all SIGHTS are so, as bits. */
        int fitting(Tree tree) {
            int bits = ALL_LOOPS;
            for (int i = 0; i < count && i < loops.length && i < fars.length; i++) {
                bits &= tree.ring(loops[i], fars[i], fars[i]);
            }
            return bits;
        }
    }

    /** CUT: a game of cutting stalks, so each LOOP is worth a heap, and who leaves no worth wins. */
    private static final class Cutting {
        private final int[] worths = new int[LOOPS];

        /** The worth of the tree when the BRANCH of a LOOP is cut (of 0, which has none: when none is). */
        int worth(Tree tree, int cutLoop) {
            for (int loop = 0; loop < worths.length; loop++) worths[loop] = 0;
            // PARENTS are of less number, so what is above a LOOP is all counted when its turn comes.
            for (int loop = worths.length - 1; loop > 0; loop--) {
                int parent = tree.parentOf(loop);
                if (loop == cutLoop || parent < 0 || parent >= worths.length) continue;
                worths[parent] ^= worths[loop] + 1;
            }
            return worths.length > 0 ? worths[0] : 0;
        }
    }

    /** TISSUE: counts of ways and lowest terms. */
    private static final class Chance {
        private static final int EUCLID_STEPS = 1000;

        /** In how many ways k of n are taken. */
        static long ways(int n, int k) {
            if (k < 0 || k > n) return 0;
            long ways = 1;
            for (int i = 1; i <= k; i++) ways = ways * (n - k + i) / i;
            return ways;
        }

        /** In how many ways k of n, of which r are red, are taken so that j at least are red. */
        static long waysAtLeast(int n, int r, int k, int j) {
            long sum = 0;
            for (int red = j; red <= k; red++) sum += ways(r, red) * ways(n - r, k - red);
            return sum;
        }

        static long lowest(long upper, long lower, int part) {
            long common = Math.max(commonDivisor(upper, lower), 1);
            return (part == 0 ? upper : lower) / common;
        }

        private static long commonDivisor(long a, long b) {
            for (int step = 0; step < EUCLID_STEPS && b != 0; step++) {
                long rest = a % b;
                a = b;
                b = rest;
            }
            return a;
        }
    }

    /** A YEAR by draws, on a hill of its own. */
    private static final class Year {
        private final Hill hill = new Hill();
        private final Act act = new Act();

        Hill pass(Hill from, int seed, int acts) {
            hill.copyFrom(from);
            int x = seed;
            for (int i = 0; i < acts; i++) {
                x = (75 * x + 74) % 65537;
                draw(x);
                if (hill.whyNot(act) == 0) hill.follow(act);
            }
            return hill;
        }

        private void draw(int x) {
            int ball = x % 6;
            int z = x / 48;
            switch (x / 6 % 8) {
                case 4:
                    act.set(Act.PACK, ball, 0);
                    break;
                case 5:
                    act.set(Act.DRAUGHT, 1 + z % 9, 0);
                    break;
                case 6:
                    act.set(Act.BEND, z % 12, z / 12 % 12);
                    break;
                case 7:
                    act.set(z % 8 == 0 ? Act.WINTER : Act.NOTHING, 0, 0);
                    break;
                default:
                    act.set(Act.HANG, ball, z % 12);
                    break;
            }
        }
    }

    /** All but the PAD, as it was when it was kept. */
    private static final class Image {
        private final Hill hill = new Hill();
        private final Sights sights = new Sights();
        private boolean kept = false;

        boolean isKept() {
            return kept;
        }

        void keep(Hill fromHill, Sights fromSights) {
            hill.copyFrom(fromHill);
            sights.copyFrom(fromSights);
            kept = true;
        }

        void bringBack(Hill toHill, Sights toSights) {
            toHill.copyFrom(hill);
            toSights.copyFrom(sights);
        }
    }
}
