import java.math.BigInteger;
import java.util.ArrayList;
import java.util.Arrays;
import java.util.HashMap;
import java.util.List;
import java.util.Map;
import java.util.regex.Matcher;
import java.util.regex.Pattern;

/** The document once more, by other means than the program's, for runs by chance. */
final class PlainHill {
    static final int NONE = -6, UNKNOWN = -1, OUTSIDE = -2, STATE = -3, FULL = -4, NO = -5;
    static final long LOST = -1000000000000000000L;
    private static final String ACT = "[A-F][a-l_]|d[1-9]|b[a-l][a-l]|\\.";
    private static final Pattern ONE_ACT = Pattern.compile(ACT);
    private static final Pattern TEXT = Pattern.compile("(?:" + ACT + ")*");

    /** What an IMAGE keeps. */
    private static final class State {
        int[] parent = {-1, 0, 0, 1, 1, 2, 2, 3, 3, 4, 4, 5};
        Integer[] loop = new Integer[6];
        int[] chips = new int[6];
        boolean[] broken = new boolean[6];
        int winter = 0;
        List<int[]> sights = new ArrayList<>();

        State copy() {
            State c = new State();
            c.parent = parent.clone();
            c.loop = loop.clone();
            c.chips = chips.clone();
            c.broken = broken.clone();
            c.winter = winter;
            c.sights = new ArrayList<>(sights);
            return c;
        }

        int[][] distances() {
            int[][] d = new int[12][12];
            for (int[] row : d) Arrays.fill(row, 100);
            for (int i = 0; i < 12; i++) d[i][i] = 0;
            for (int i = 1; i < 12; i++) d[i][parent[i]] = d[parent[i]][i] = 1;
            for (int k = 0; k < 12; k++)
                for (int i = 0; i < 12; i++)
                    for (int j = 0; j < 12; j++) d[i][j] = Math.min(d[i][j], d[i][k] + d[k][j]);
            return d;
        }

        Integer onLoop(int l) {
            for (int b = 0; b < 6; b++) if (loop[b] != null && loop[b] == l) return b;
            return null;
        }

        int loops() {
            int bits = 0;
            for (int l = 0; l < 12; l++) if (onLoop(l) != null) bits += 1 << l;
            return bits;
        }

        int brokenOnes() {
            int bits = 0;
            for (int b = 0; b < 6; b++) if (broken[b]) bits += 1 << b;
            return bits;
        }

        int reason(String act) {
            char head = act.charAt(0);
            if (head == '.') return winter == 99 ? 6 : 0;
            if (head == 'd') return Integer.bitCount(loops()) < 2 ? 4 : 0;
            if (head == 'b') {
                int child = act.charAt(1) - 'a', above = act.charAt(2) - 'a';
                return above >= child || parent[child] == above ? 5 : 0;
            }
            int ball = head - 'A';
            if (broken[ball]) return 1;
            if (act.charAt(1) == '_') return loop[ball] == null ? 3 : 0;
            Integer there = onLoop(act.charAt(1) - 'a');
            return there == null ? 0 : there == ball ? 3 : 2;
        }

        void act(String act) {
            char head = act.charAt(0);
            if (head == '.') {
                winter++;
                Arrays.fill(loop, null);
            } else if (head == 'd') {
                draught(act.charAt(1) - '0');
            } else if (head == 'b') {
                parent[act.charAt(1) - 'a'] = act.charAt(2) - 'a';
            } else {
                loop[head - 'A'] = act.charAt(1) == '_' ? null : Integer.valueOf(act.charAt(1) - 'a');
            }
        }

        private void draught(int reach) {
            int[][] d = distances();
            int[] more = new int[6];
            for (int a = 0; a < 6; a++)
                for (int b = a + 1; b < 6; b++)
                    if (loop[a] != null && loop[b] != null && d[loop[a]][loop[b]] <= reach) {
                        more[a]++;
                        more[b]++;
                    }
            for (int a = 0; a < 6; a++) {
                chips[a] += more[a];
                if (chips[a] < 9 || broken[a]) continue;
                chips[a] = 9;
                broken[a] = true;
                loop[a] = null;
            }
        }

        int allChips() {
            return Arrays.stream(chips).sum();
        }
    }

    private State now = new State();
    private final State[] images = new State[2];
    private final StringBuilder pad = new StringBuilder();

    private State after;
    private int acts, why, breakAct, breakBall;

    private static boolean in(int x, int least, int most) {
        return x >= least && x <= most;
    }

    int branch(int loop, int parent) {
        if (!in(loop, 1, 11) || !in(parent, 0, 11)) return UNKNOWN;
        if (parent >= loop) return OUTSIDE;
        int was = now.parent[loop];
        now.parent[loop] = parent;
        return was;
    }

    int ball(int ball, int loop, int chips) {
        if (!in(ball, 0, 5) || !in(loop, -1, 11)) return UNKNOWN;
        if (!in(chips, 0, 8)) return OUTSIDE;
        Integer there = loop < 0 ? null : now.onLoop(loop);
        if (there != null && there != ball) return STATE;
        int was = now.loop[ball] == null ? NONE : now.loop[ball];
        now.loop[ball] = loop < 0 ? null : Integer.valueOf(loop);
        now.chips[ball] = chips;
        now.broken[ball] = false;
        return was;
    }

    int say(int sign) {
        if (!in(sign, 33, 126)) return OUTSIDE;
        if (pad.length() == 60) return FULL;
        return pad.append((char) sign).length();
    }

    int wipe() {
        int were = pad.length();
        pad.setLength(0);
        return were;
    }

    int fault() {
        for (int p = 0; p < pad.length(); p++) {
            Matcher m = TEXT.matcher(pad.substring(0, p + 1));
            if (!m.matches() && !m.hitEnd()) return p;
        }
        return TEXT.matcher(pad).matches() ? NONE : pad.length();
    }

    private boolean follows() {
        after = now.copy();
        acts = why = 0;
        breakAct = breakBall = NONE;
        Matcher m = ONE_ACT.matcher(pad);
        while (m.find()) {
            why = after.reason(m.group());
            if (why > 0) return false;
            int before = after.brokenOnes();
            after.act(m.group());
            int fresh = after.brokenOnes() - before;
            if (fresh > 0 && breakAct == NONE) {
                breakAct = acts;
                breakBall = Integer.numberOfTrailingZeros(fresh);
            }
            acts++;
        }
        return true;
    }

    int judge(int what) {
        if (!in(what, 0, 1)) return OUTSIDE;
        if (fault() != NONE) return NO;
        if (follows()) return NONE;
        return what == 0 ? acts : why;
    }

    int done() {
        if (fault() != NONE || !follows()) return NO;
        now = after;
        pad.setLength(0);
        return acts;
    }

    int behind(int ball, int what) {
        if (!in(ball, 0, 5)) return UNKNOWN;
        if (!in(what, 0, 2)) return OUTSIDE;
        if (fault() != NONE || !follows()) return NO;
        if (what == 0) return after.loop[ball] == null ? NONE : after.loop[ball];
        return what == 1 ? after.chips[ball] : after.broken[ball] ? 1 : 0;
    }

    int then(int what) {
        if (!in(what, 0, 5)) return OUTSIDE;
        if (fault() != NONE || !follows()) return NO;
        return new int[] {after.loops(), after.brokenOnes(), after.allChips() - now.allChips(), after.winter,
            breakAct, breakBall}[what];
    }

    int apart(int a, int b) {
        return in(a, 0, 11) && in(b, 0, 11) ? now.distances()[a][b] : UNKNOWN;
    }

    private List<Integer> toStem(int loop) {
        List<Integer> way = new ArrayList<>();
        for (int l = loop; l >= 0; l = now.parent[l]) way.add(l);
        return way;
    }

    int meets(int a, int b) {
        if (!in(a, 0, 11) || !in(b, 0, 11)) return UNKNOWN;
        List<Integer> both = toStem(a);
        both.retainAll(toStem(b));
        return both.get(0);
    }

    int sees(int ball) {
        if (!in(ball, 0, 5)) return UNKNOWN;
        if (now.loop[ball] == null) return STATE;
        int[][] d = now.distances();
        int bits = 0;
        for (int b = 0; b < 6; b++) {
            if (b == ball || now.loop[b] == null) continue;
            boolean free = true;
            for (int c = 0; c < 6; c++) {
                if (c == b || c == ball || now.loop[c] == null) continue;
                int x = now.loop[ball], y = now.loop[b], z = now.loop[c];
                if (d[x][z] + d[z][y] == d[x][y]) free = false;
            }
            if (free) bits |= 1 << b;
        }
        return bits;
    }

    int near(int what) {
        if (!in(what, 0, 3)) return OUTSIDE;
        if (now.loops() == 0) return NONE;
        int[][] d = now.distances();
        int[] sum = new int[12], far = new int[12];
        for (int l = 0; l < 12; l++)
            for (Integer hung : now.loop)
                if (hung != null) {
                    sum[l] += d[l][hung];
                    far[l] = Math.max(far[l], d[l][hung]);
                }
        int[] by = what < 2 ? sum : far;
        int least = Arrays.stream(by).min().getAsInt();
        if (what % 2 == 1) return least;
        int l = 0;
        while (by[l] != least) l++;
        return l;
    }

    int room(int s, int what) {
        if (!in(s, 0, 11) || !in(what, 0, 1)) return OUTSIDE;
        int[][] d = now.distances();
        int best = 0;
        for (int set = 4095; set > 0; set--) {
            boolean good = true;
            for (int a = 0; a < 12; a++)
                for (int b = 0; b < a; b++)
                    if ((set & 1 << a) != 0 && (set & 1 << b) != 0 && d[a][b] <= s) good = false;
            if (good && Integer.bitCount(set) >= Integer.bitCount(best)) best = set;
        }
        return what == 0 ? Integer.bitCount(best) : best;
    }

    int candles(int r, int what) {
        if (!in(r, 0, 11) || !in(what, 0, 1)) return OUTSIDE;
        int[][] d = now.distances();
        int best = 4095;
        for (int set = 4095; set > 0; set--) {
            boolean good = true;
            for (int a = 0; a < 12; a++) {
                boolean lit = false;
                for (int b = 0; b < 12; b++) lit |= (set & 1 << b) != 0 && d[a][b] <= r;
                good &= lit;
            }
            if (good && Integer.bitCount(set) <= Integer.bitCount(best)) best = set;
        }
        return what == 0 ? Integer.bitCount(best) : best;
    }

    int seen(int loop, int v) {
        if (!in(loop, 0, 11)) return UNKNOWN;
        if (!in(v, 0, 11)) return OUTSIDE;
        if (now.sights.size() == 8) return FULL;
        now.sights.add(new int[] {loop, v});
        return now.sights.size();
    }

    int forget() {
        int were = now.sights.size();
        now.sights.clear();
        return were;
    }

    private List<Integer> fitting() {
        int[][] d = now.distances();
        List<Integer> fit = new ArrayList<>();
        for (int l = 0; l < 12; l++) {
            boolean fits = true;
            for (int[] s : now.sights) fits &= d[l][s[0]] == s[1];
            if (fits) fit.add(l);
        }
        return fit;
    }

    int where(int i) {
        List<Integer> fit = fitting();
        if (i == -1) return fit.size();
        return i < 0 || i >= fit.size() ? NONE : fit.get(i);
    }

    int ask(int what) {
        if (!in(what, 0, 1)) return OUTSIDE;
        List<Integer> fit = fitting();
        if (fit.isEmpty()) return NONE;
        int[][] d = now.distances();
        int best = -1, fewest = 100;
        for (int l = 0; l < 12; l++) {
            Map<Integer, Integer> left = new HashMap<>();
            for (int f : fit) left.merge(d[l][f], 1, Integer::sum);
            int most = left.values().stream().max(Integer::compare).get();
            if (most < fewest) {
                fewest = most;
                best = l;
            }
        }
        return what == 0 ? best : fewest;
    }

    private int cutOff(int branches, int loop) {
        int left = 0;
        for (int l = 1; l < 12; l++) if ((branches & 1 << l) != 0 && !toStem(l).contains(loop)) left |= 1 << l;
        return left;
    }

    private boolean wins(int branches, Map<Integer, Boolean> known) {
        Boolean told = known.get(branches);
        if (told != null) return told;
        boolean wins = false;
        for (int l = 1; l < 12 && !wins; l++)
            if ((branches & 1 << l) != 0) wins = !wins(cutOff(branches, l), known);
        known.put(branches, wins);
        return wins;
    }

    int cut(int what) {
        if (!in(what, 0, 1)) return OUTSIDE;
        Map<Integer, Boolean> known = new HashMap<>();
        if (what == 0) return wins(4094, known) ? 1 : 0;
        for (int l = 1; l < 12; l++) if (!wins(cutOff(4094, l), known)) return l;
        return NONE;
    }

    private static BigInteger factorial(int n) {
        BigInteger f = BigInteger.ONE;
        for (int i = 2; i <= n; i++) f = f.multiply(BigInteger.valueOf(i));
        return f;
    }

    private static BigInteger choose(int n, int k) {
        if (k < 0 || k > n) return BigInteger.ZERO;
        return factorial(n).divide(factorial(k).multiply(factorial(n - k)));
    }

    long tissue(int n, int r, int k, int j, int what, int part) {
        if (!in(n, 0, 40) || !in(r, 0, n) || !in(k, 0, n) || !in(j, 0, k)) return LOST - 2;
        if (!in(what, 0, 1) || !in(part, 0, 1)) return LOST - 2;
        BigInteger upper = BigInteger.ZERO;
        BigInteger lower = choose(n, k);
        // The mean is added up from its meaning, not from k r / n.
        for (int red = what == 0 ? j : 0; red <= k; red++)
            upper = upper.add(choose(r, red).multiply(choose(n - r, k - red))
                .multiply(BigInteger.valueOf(what == 0 ? 1 : red)));
        BigInteger common = upper.gcd(lower);
        return (part == 0 ? upper : lower).divide(common).longValueExact();
    }

    int year(int seed, int m, int what) {
        if (!in(seed, 0, 9999) || !in(m, 1, 99) || !in(what, 0, 2)) return OUTSIDE;
        State s = now.copy();
        long x = seed;
        for (int i = 0; i < m; i++) {
            x = (75 * x + 74) % 65537;
            int kind = (int) (x / 6 % 8), z = (int) (x / 48);
            String ball = "" + (char) ('A' + x % 6);
            String act = ball + (char) ('a' + z % 12);
            if (kind == 4) act = ball + "_";
            if (kind == 5) act = "d" + (1 + z % 9);
            if (kind == 6) act = "b" + (char) ('a' + z % 12) + (char) ('a' + z / 12 % 12);
            if (kind == 7 && z % 8 != 0) continue;
            if (kind == 7) act = ".";
            if (s.reason(act) == 0) s.act(act);
        }
        if (what == 0) return Integer.bitCount(s.loops());
        return what == 1 ? s.allChips() : Integer.bitCount(s.brokenOnes());
    }

    int image(int n) {
        if (!in(n, 0, 1)) return OUTSIDE;
        images[n] = now.copy();
        return 1;
    }

    int restore(int n) {
        if (!in(n, 0, 1)) return OUTSIDE;
        if (images[n] == null) return STATE;
        now = images[n].copy();
        return 1;
    }

    int told(int what) {
        if (what == 0) return pad.length();
        if (what == 1) return now.loops();
        if (what == 2) return now.brokenOnes();
        if (what == 3) return now.winter;
        if (what == 4) return now.sights.size();
        if (what == 10) return NONE;
        if (in(what, 11, 21)) return now.parent[what - 10];
        if (in(what, 30, 35)) return now.loop[what - 30] == null ? NONE : now.loop[what - 30];
        return in(what, 40, 45) ? now.chips[what - 40] : OUTSIDE;
    }
}
