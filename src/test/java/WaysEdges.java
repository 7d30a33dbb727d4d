/** Promises 11 to 16 at their edges: apart, meets, sees, near, room, candles. */
final class WaysEdges extends Edges {
    private static final int[] NO_LOOP = {LEAST, -1, 12, MOST};

    WaysEdges(Doc doc, Due due) {
        super(doc, due);
    }

    @Override
    void run() {
        fewestBranches();
        apart();
        farthestFromTheStem();
        meets();
        neverItself();
        thoseThatHang();
        between();
        sees();
        leastInAll();
        byTheFarthest();
        asThingsAreNow();
        near();
        mostLoops();
        room();
        fewestLoops();
        candles();
    }

    private void fewestBranches() {
        terms("11", "APART of two LOOPS: the fewest BRANCHES from one to the other (0: one LOOP).");
        for (int loop = 0; loop < 12; loop++) is("apart " + loop + " " + loop, 0);
        is("apart 7 8", 2);
        is("apart 8 7", 2);
        is("apart 7 11", 6);
        is("apart 11 7", 6);
        path();
        for (int a = 0; a < 12; a++)
            for (int b = 0; b < 12; b++) is("apart " + a + " " + b, Math.abs(a - b));
        star();
        for (int a = 0; a < 12; a++)
            for (int b = 0; b < 12; b++) is("apart " + a + " " + b, a == b ? 0 : a == 0 || b == 0 ? 1 : 2);
    }

    private void apart() {
        promise(11, "APART.");
        keeps("apart 0 0", 0);
        keeps("apart 0 11", 3);
        promise(11, "UNKNOWN: both.");
        for (int loop : NO_LOOP) {
            keeps("apart " + loop + " 0", UNKNOWN);
            keeps("apart 11 " + loop, UNKNOWN);
            keeps("apart " + loop + " " + loop, UNKNOWN);
        }
    }

    private void farthestFromTheStem() {
        terms("12", "MEETS of two LOOPS: the LOOP farthest from the stem by which the ways of both to the stem go.");
        // One and the same, one on the way of the other, the stem.
        is("meets 11 11", 11);
        is("meets 0 0", 0);
        is("meets 7 3", 3);
        is("meets 1 8", 1);
        is("meets 0 11", 0);
        is("meets 7 8", 3);
        is("meets 8 10", 1);
        is("meets 7 11", 0);
        path();
        for (int a = 0; a < 12; a++)
            for (int b = 0; b < 12; b++) is("meets " + a + " " + b, Math.min(a, b));
        star();
        for (int a = 0; a < 12; a++)
            for (int b = 0; b < 12; b++) is("meets " + a + " " + b, a == b ? a : 0);
        // f and i on d, h on f: d, c, b, a are on both ways.
        path();
        set("branch 4 0; branch 5 3; branch 6 4; branch 7 5; branch 8 3");
        is("meets 7 8", 3);
        is("meets 6 7", 0);
    }

    private void meets() {
        promise(12, "MEETS.");
        keeps("meets 9 10", 4);
        keeps("meets 10 9", 4);
        promise(12, "UNKNOWN: both.");
        for (int loop : NO_LOOP) {
            keeps("meets " + loop + " 0", UNKNOWN);
            keeps("meets 11 " + loop, UNKNOWN);
            keeps("meets " + loop + " " + loop, UNKNOWN);
        }
    }

    private void neverItself() {
        terms("13", "SEES: BALLS (bits, never itself) that a BALL sees:");
        set("ball 0 0 0");
        is("sees 0", 0);
        star();
        for (int ball = 0; ball < 6; ball++) set("ball " + ball + " " + (ball + 6) + " 0");
        for (int ball = 0; ball < 6; ball++) is("sees " + ball, 63 - (1 << ball));
    }

    private void thoseThatHang() {
        terms("13", "those that hang,");
        path();
        set("ball 0 0 0; ball 1 11 0; ball 2 -1 0; ball 3 9 8; ball 4 10 8");
        is("sees 0", 8);
        write("d1");
        set("done");
        // D, E broke: they are seen no more, and hide nobody.
        is("told 2", 24);
        is("sees 0", 2);
        is("sees 1", 1);
        is("sees 3", STATE);
        set("ball 2 5 0");
        is("sees 0", 4);
        is("sees 2", 3);
        set("ball 2 -1 0");
        is("sees 0", 2);
    }

    private void between() {
        terms("13", "if on no LOOP between the two (those of both left out) another one hangs.");
        path();
        set("ball 0 4 0; ball 1 5 0");
        is("sees 0", 2);
        set("ball 2 6 0; ball 3 3 0");
        is("sees 0", 10);
        is("sees 1", 5);
        is("sees 2", 2);
        is("sees 3", 1);
        // Off the way, nobody hides another.
        anew();
        set("ball 0 7 0; ball 1 8 0; ball 2 1 0");
        is("sees 0", 6);
        is("sees 1", 5);
        is("sees 2", 3);
        set("ball 3 3 0");
        is("sees 0", 8);
        is("sees 1", 8);
        is("sees 2", 8);
        is("sees 3", 7);
    }

    private void sees() {
        promise(13, "SEES, as bits.");
        set("ball 0 0 0; ball 5 11 0");
        keeps("sees 0", 32);
        keeps("sees 5", 1);
        promise(13, "UNKNOWN;");
        for (int ball : new int[] {LEAST, -1, 6, MOST}) keeps("sees " + ball, UNKNOWN);
        promise(13, "STATE: it does not hang.");
        for (int ball = 0; ball < 6; ball++) keeps("sees " + ball, STATE);
        set("ball 0 3 8; ball 1 4 0");
        write("d2");
        keeps("sees 0", 2);
        set("done");
        keeps("sees 0", STATE);
        keeps("sees 1", 0);
        write(".");
        set("done");
        keeps("sees 1", STATE);
    }

    private void near(int loop, int much, int byFarthest, int far) {
        is("near 0", loop);
        is("near 1", much);
        is("near 2", byFarthest);
        is("near 3", far);
    }

    private void leastInAll() {
        terms("14", "NEAR: the LOOP from which all LOOPS on which BALLS hang are APART by least in all, the least;"
            + " how much;");
        set("ball 0 11 0");
        near(11, 0, 11, 0);
        path();
        // From each LOOP between a and l it is 11 in all: a is the least.
        set("ball 0 0 0; ball 1 11 0");
        near(0, 11, 5, 6);
        set("ball 2 10 0");
        near(10, 11, 5, 6);
        for (int ball = 0; ball < 6; ball++) set("ball " + ball + " -1 0; ball " + ball + " " + (6 + ball) + " 0");
        near(8, 9, 8, 3);
    }

    private void byTheFarthest() {
        terms("14", "the same by the farthest of them (NONE: none hangs).");
        near(NONE, NONE, NONE, NONE);
        set("ball 0 -1 0; ball 1 3 8; ball 2 4 8");
        near(1, 2, 1, 1);
        write("d2");
        set("done");
        // All are BROKEN or PACKED.
        near(NONE, NONE, NONE, NONE);
        path();
        set("ball 0 0 0; ball 1 1 0; ball 2 11 0");
        near(1, 11, 5, 6);
        set("ball 2 10 0");
        near(1, 10, 5, 5);
        set("ball 2 -1 0; ball 1 11 0; ball 0 1 0");
        near(1, 10, 6, 5);
    }

    private void asThingsAreNow() {
        terms("14 to 16", "(As things are now.)");
        set("ball 0 0 0");
        write(".AlBkblkbka");
        is("then 0", 3072);
        near(0, 0, 0, 0);
        is("room 4 1", 160);
        is("room 5 1", 2176);
        is("candles 2 1", 6);
        set("done");
        near(10, 1, 10, 1);
        // k hangs on the stem, and l on k: nothing is APART by 6, and c is no good candle.
        is("room 4 1", 160);
        is("room 5 1", 1);
        is("candles 2 1", 3);
    }

    private void near() {
        promise(14, "NEAR: the LOOP (what = 0), how much (1), the LOOP by the farthest (2), how far that is (3);");
        path();
        set("ball 0 0 0; ball 1 1 0; ball 2 11 0");
        keeps("near 0", 1);
        keeps("near 1", 11);
        keeps("near 2", 5);
        keeps("near 3", 6);
        promise(14, "NONE.");
        for (int what = 0; what < 4; what++) keeps("near " + what, NONE);
        promise(14, "OUTSIDE.");
        for (int what : new int[] {LEAST, -1, 4, MOST}) keeps("near " + what, OUTSIDE);
        set("ball 0 0 0");
        for (int what : new int[] {LEAST, -1, 4, MOST}) keeps("near " + what, OUTSIDE);
    }

    private void sets(String call, int size, int many, int which) {
        is(call + " " + size + " 0", many);
        is(call + " " + size + " 1", which);
    }

    private void mostLoops() {
        terms("15", "ROOM: the most LOOPS of which each two are APART by more than s (0 to 11): how many;");
        path();
        for (int s = 0; s < 12; s++) {
            int which = 0;
            for (int loop = 0; loop < 12; loop += s + 1) which |= 1 << loop;
            sets("room", s, Integer.bitCount(which), which);
        }
        star();
        sets("room", 0, 12, 4095);
        sets("room", 1, 11, 4094);
        for (int s = 2; s < 12; s++) sets("room", s, 1, 1);
        terms("15", "which, least as bits of as many.");
        // The tips h, i, j, k, and f or l, and g, and a: f is less than l, and so are all their bits.
        sets("room", 1, 7, 1 + 32 + 64 + 128 + 256 + 512 + 1024);
        // f and h: d and l have one of less number, but not less bits.
        sets("room", 4, 2, 32 + 128);
        // One of h to k, and l, are APART by 6.
        sets("room", 5, 2, 128 + 2048);
        sets("room", 6, 1, 1);
        sets("room", 11, 1, 1);
    }

    private void room() {
        promise(15, "ROOM: how many (what = 0), which (1).");
        keeps("room 0 0", 12);
        keeps("room 0 1", 4095);
        keeps("room 11 0", 1);
        keeps("room 11 1", 1);
        path();
        keeps("room 10 0", 2);
        keeps("room 10 1", 2049);
        keeps("room 11 0", 1);
        // Where BALLS hang is no matter.
        set("ball 0 0 0; ball 1 11 0");
        keeps("room 10 1", 2049);
        promise(15, "OUTSIDE.");
        for (int wrong : new int[] {LEAST, -1, 12, MOST}) {
            keeps("room " + wrong + " 0", OUTSIDE);
            keeps("room " + wrong + " 1", OUTSIDE);
        }
        for (int wrong : new int[] {LEAST, -1, 2, MOST}) {
            keeps("room 0 " + wrong, OUTSIDE);
            keeps("room 11 " + wrong, OUTSIDE);
        }
    }

    private void fewestLoops() {
        terms("16", "CANDLES: the fewest LOOPS so that each LOOP is APART by r (0 to 11) at the most from one of them:"
            + " how many;");
        path();
        for (int r = 0; r < 12; r++) {
            int which = 0;
            // From the tip on, each stands as near to the stem as can be.
            for (int unlit = 11; unlit >= 0;) {
                int candle = Math.max(unlit - r, 0);
                which |= 1 << candle;
                unlit = candle - r - 1;
            }
            sets("candles", r, Integer.bitCount(which), which);
        }
        star();
        sets("candles", 0, 12, 4095);
        for (int r = 1; r < 12; r++) sets("candles", r, 1, 1);
        terms("16", "which, least as bits of as few.");
        // c, d, e and f light all: f or l must be there, f is less.
        sets("candles", 1, 4, 4 + 8 + 16 + 32);
        sets("candles", 2, 2, 2 + 4);
        sets("candles", 3, 1, 1);
    }

    private void candles() {
        promise(16, "CANDLES: how many (what = 0), which (1).");
        keeps("candles 0 0", 12);
        keeps("candles 0 1", 4095);
        keeps("candles 11 0", 1);
        keeps("candles 11 1", 1);
        path();
        keeps("candles 10 1", 2);
        keeps("candles 11 1", 1);
        set("ball 0 0 0; ball 1 11 0");
        keeps("candles 10 1", 2);
        promise(16, "OUTSIDE.");
        for (int wrong : new int[] {LEAST, -1, 12, MOST}) {
            keeps("candles " + wrong + " 0", OUTSIDE);
            keeps("candles " + wrong + " 1", OUTSIDE);
        }
        for (int wrong : new int[] {LEAST, -1, 2, MOST}) {
            keeps("candles 0 " + wrong, OUTSIDE);
            keeps("candles 11 " + wrong, OUTSIDE);
        }
    }
}
