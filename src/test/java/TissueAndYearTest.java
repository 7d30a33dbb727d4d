/** Promises 22 and 23: tissue, year. */
public final class TissueAndYearTest {
    private static final Due T = new Due();
    private static final long REFUSED = -1000000000000000002L;

    private static void fraction(int[] c, int what, long upper, long lower) {
        BaubleHill hill = new BaubleHill();
        String call = "tissue " + c[0] + " " + c[1] + " " + c[2] + " " + c[3] + " " + what;
        T.due(call + " 0", hill.tissue(c[0], c[1], c[2], c[3], what, 0), upper);
        T.due(call + " 1", hill.tissue(c[0], c[1], c[2], c[3], what, 1), lower);
    }

    private static void tissue() {
        fraction(new int[] {3, 1, 2, 1}, 0, 2, 3);
        fraction(new int[] {3, 1, 2, 1}, 1, 2, 3);
        fraction(new int[] {3, 1, 2, 2}, 0, 0, 1);
        fraction(new int[] {3, 1, 2, 0}, 0, 1, 1);
        fraction(new int[] {4, 2, 2, 1}, 0, 5, 6);
        fraction(new int[] {6, 4, 3, 2}, 0, 4, 5);
        fraction(new int[] {6, 4, 3, 3}, 1, 2, 1);
        fraction(new int[] {5, 5, 3, 3}, 0, 1, 1);
        fraction(new int[] {5, 0, 3, 1}, 0, 0, 1);
        fraction(new int[] {5, 0, 3, 1}, 1, 0, 1);
        fraction(new int[] {5, 2, 0, 0}, 0, 1, 1);
        fraction(new int[] {5, 2, 0, 0}, 1, 0, 1);
        fraction(new int[] {0, 0, 0, 0}, 0, 1, 1);
        fraction(new int[] {0, 0, 0, 0}, 1, 0, 1);
        fraction(new int[] {40, 40, 40, 40}, 0, 1, 1);
        fraction(new int[] {40, 40, 40, 40}, 1, 40, 1);
        fraction(new int[] {40, 20, 20, 20}, 0, 1, 137846528820L);
        fraction(new int[] {40, 20, 20, 1}, 0, 137846528819L, 137846528820L);
        fraction(new int[] {40, 39, 1, 1}, 0, 39, 40);
    }

    private static void refusedTissue() {
        int[][] wrong = {
            {41, 0, 0, 0, 0, 0}, {-1, 0, 0, 0, 0, 0}, {3, 4, 0, 0, 0, 0}, {3, -1, 0, 0, 0, 0}, {3, 0, 4, 0, 0, 0},
            {3, 0, -1, 0, 0, 0}, {3, 3, 2, 3, 0, 0}, {3, 3, 2, -1, 0, 0}, {3, 3, 2, 3, 1, 0}, {3, 3, 2, 2, 2, 0},
            {3, 3, 2, 2, -1, 0}, {3, 3, 2, 2, 0, 2}, {3, 3, 2, 2, 0, -1},
            {Integer.MIN_VALUE, Integer.MIN_VALUE, Integer.MIN_VALUE, Integer.MIN_VALUE, 0, 0},
            {Integer.MAX_VALUE, Integer.MAX_VALUE, Integer.MAX_VALUE, Integer.MAX_VALUE, 1, 1}};
        BaubleHill hill = new BaubleHill();
        for (int[] w : wrong) {
            T.due("tissue " + java.util.Arrays.toString(w), hill.tissue(w[0], w[1], w[2], w[3], w[4], w[5]), REFUSED);
        }
    }

    /** A on d, B on e with 8, C on h with 2. */
    private static BaubleHill hung() {
        BaubleHill hill = new BaubleHill();
        hill.ball(0, 3, 0);
        hill.ball(1, 4, 8);
        hill.ball(2, 7, 2);
        return hill;
    }

    private static void year(String name, BaubleHill hill, int seed, int m, int[] want) {
        for (int what = 0; what < 3; what++) T.due(name + ": year " + what, hill.year(seed, m, what), want[what]);
    }

    private static void oneDraw() {
        BaubleHill none = new BaubleHill();
        // 12912, 9462, 6012, 2562: A hangs on f, by 0 to 3.
        for (int seed : new int[] {1045, 999, 953, 907}) year("A hangs on f", none, seed, 1, new int[] {1, 0, 0});
        BaubleHill hill = hung();
        hill.ball(0, -1, 0);
        year("A hangs on f", hill, 1045, 1, new int[] {3, 10, 0});
        hill.ball(3, 5, 0);
        year("another one hangs on f", hill, 1045, 1, new int[] {3, 10, 0});
        hill = hung();
        // Seed 0 makes 74: C is PACKED.
        year("C is PACKED", hill, 0, 1, new int[] {2, 10, 0});
        year("A is PACKED", hill, 877, 1, new int[] {2, 10, 0});
        year("B is PACKED", hill, 1747, 1, new int[] {2, 10, 0});
        // d and e are APART by 2, d and h by 1, e and h by 3.
        year("a draught of 1", hill, 11, 1, new int[] {3, 12, 0});
        year("a draught of 2", hill, 75, 1, new int[] {2, 14, 1});
        year("a draught of 3", hill, 18, 1, new int[] {2, 15, 1});
        year("a draught of 9", hill, 91, 1, new int[] {2, 15, 1});
        year("a draught, none hangs", none, 91, 1, new int[] {0, 0, 0});
        year("a winter", hill, 15, 1, new int[] {0, 10, 0});
        year("no winter", hill, 6, 1, new int[] {3, 10, 0});
        year("a BRANCH from the stem", hill, 61, 1, new int[] {3, 10, 0});
        T.due("LOOPS, as before", hill.told(1), 152);
        T.due("CHIPS of B, as before", hill.told(41), 8);
        T.due("BROKEN, as before", hill.told(2), 0);
        T.due("winter, as before", hill.told(3), 0);
    }

    private static void brokenOnesStayBroken() {
        BaubleHill hill = hung();
        Due.write(hill, "d2");
        hill.done();
        year("all as it is", hill, 6, 1, new int[] {2, 14, 1});
        year("B can not be PACKED", hill, 1747, 1, new int[] {2, 14, 1});
    }

    private static void moreDraws() {
        BaubleHill hill = new BaubleHill();
        hill.ball(0, 8, 0);
        hill.ball(1, 1, 0);
        // i hangs from b, by the first draw; the second is a draught of 1.
        year("a BRANCH, a draught", hill, 1760, 2, new int[] {2, 2, 0});
        T.due("PARENT of i, as before", hill.told(18), 3);
        Due.write(hill, "Ea");
        year("the PAD is no matter", hill, 1760, 2, new int[] {2, 2, 0});
        T.due("signs, as before", hill.told(0), 2);
    }

    private static void refusedYear() {
        int[][] wrong = {{-1, 1, 0}, {10000, 1, 0}, {0, 0, 0}, {0, -1, 0}, {0, 100, 0}, {0, 1, 3}, {0, 1, -1},
            {Integer.MIN_VALUE, Integer.MAX_VALUE, Integer.MAX_VALUE}};
        BaubleHill hill = hung();
        for (int[] w : wrong) T.due("year " + java.util.Arrays.toString(w), hill.year(w[0], w[1], w[2]), -2);
        T.due("year 9999 99 is told", hill.year(9999, 99, 0) >= 0 ? 1 : 0, 1);
    }

    public static void main(String[] args) {
        tissue();
        refusedTissue();
        oneDraw();
        brokenOnesStayBroken();
        moreDraws();
        refusedYear();
        T.end();
    }
}
