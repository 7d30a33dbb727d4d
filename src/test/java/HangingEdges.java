/** Promises 1 to 3 at their edges: a new object, branch, ball. */
final class HangingEdges extends Edges {
    HangingEdges(Doc doc, Due due) {
        super(doc, due);
    }

    @Override
    void run() {
        aNewObject();
        loopsFromTo();
        theStem();
        ofLessNumber();
        atFirst();
        ballsFromTo();
        oneAtTheMost();
        broken();
        chipsFromTo();
        winterAtFirst();
        branchTellsWhichItWas();
        branchUnknown();
        branchOutside();
        ballHangs();
        ballIsPacked();
        ballIsNotBroken();
        ballTellsWhereItHung();
        ballUnknown();
        ballOutside();
        ballState();
    }

    private void aNewObject() {
        promise(1, "A tree, all packed.");
        is("told 1", 0);
        is("told 2", 0);
        is("told 0", 0);
        is("told 4", 0);
        is("fault", NONE);
        is("where -1", 12);
        is("restore 0", STATE);
        is("restore 1", STATE);
        is("near 0", NONE);
        is("then 1", 0);
    }

    private void loopsFromTo() {
        terms("1, 2, 3, 6, 11, 12, 17", "LOOPS 0 to 11 (a to l):");
        is("apart 0 11", 3);
        is("meets 11 11", 11);
        is("apart 11 12", UNKNOWN);
        is("meets -1 0", UNKNOWN);
        is("branch 11 10", 5);
        is("branch 12 11", UNKNOWN);
        is("seen 11 0", 1);
        is("seen 12 0", UNKNOWN);
        is("ball 0 11 0", NONE);
        is("ball 0 12 0", UNKNOWN);
        write("AaBl");
        is("then 0", 2049);
        write("Am");
        is("fault", 1);
        write("A`");
        is("fault", 1);
    }

    private void theStem() {
        terms("1, 2, 26", "from each but 0 (the stem) a BRANCH leads to its PARENT,");
        is("told 10", NONE);
        for (int loop = 1; loop < 12; loop++) is("apart 0 " + loop, loop < 3 ? 1 : loop < 7 ? 2 : 3);
        for (int parent = 0; parent < 12; parent++) keeps("branch 0 " + parent, UNKNOWN);
        is("told 10", NONE);
    }

    private void ofLessNumber() {
        terms("1, 2", "a LOOP of less number");
        for (int loop = 1; loop < 12; loop++) {
            is("branch " + loop + " " + (loop - 1), (loop - 1) / 2);
            is("branch " + loop + " " + loop, OUTSIDE);
            is("branch " + loop + " 0", loop - 1);
            is("told " + (10 + loop), 0);
        }
    }

    private void atFirst() {
        terms("1", "(at first that of half of 1 less, cut).");
        int[] parents = {0, 0, 1, 1, 2, 2, 3, 3, 4, 4, 5};
        for (int loop = 1; loop < 12; loop++) is("told " + (10 + loop), parents[loop - 1]);
    }

    private void ballsFromTo() {
        terms("1, 3, 6, 9, 13", "BALLS 0 to 5 (A to F) are each PACKED (all, at first), hung on a LOOP");
        for (int ball = 0; ball < 6; ball++) {
            is("told " + (30 + ball), NONE);
            is("behind " + ball + " 0", NONE);
            is("sees " + ball, STATE);
            is("ball " + ball + " -1 0", NONE);
        }
        is("ball 5 11 0", NONE);
        is("sees 5", 0);
        is("sees 6", UNKNOWN);
        is("ball 6 0 0", UNKNOWN);
        is("ball -1 0 0", UNKNOWN);
        write("AaFb");
        is("then 0", 3);
        write("G");
        is("fault", 0);
        write("@");
        is("fault", 0);
    }

    private void oneAtTheMost() {
        terms("3, 7", "(on one LOOP hangs one at the most),");
        set("ball 0 11 0");
        for (int ball = 1; ball < 6; ball++) keeps("ball " + ball + " 11 0", STATE);
        write("BaCa");
        is("judge 1", 2);
        is("year 145 1 0", 2);
        set("ball 1 0 0");
        // F would hang on a by the first draw.
        is("year 145 1 0", 2);
        is("told 1", 2049);
    }

    private void broken() {
        terms("3, 8, 26", "or BROKEN,");
        set("ball 0 3 8; ball 1 4 0");
        write("d2");
        set("done");
        is("told 2", 1);
        is("told 30", NONE);
        is("told 1", 16);
        is("sees 0", STATE);
        is("sees 1", 0);
    }

    private void chipsFromTo() {
        terms("1, 3, 8, 26", "and have 0 to 9 CHIPS (none at first).");
        for (int ball = 0; ball < 6; ball++) is("told " + (40 + ball), 0);
        is("ball 0 3 0", NONE);
        is("told 40", 0);
        is("ball 1 4 8", NONE);
        is("told 41", 8);
        write("d2");
        set("done");
        is("told 40", 1);
        is("told 41", 9);
        write("d9");
        is("done", NO);
        is("told 41", 9);
    }

    private void winterAtFirst() {
        terms("1, 10, 26", "It is winter 0 at first.");
        is("told 3", 0);
        is("then 3", 0);
    }

    private void branchTellsWhichItWas() {
        promise(2, "The PARENT of a LOOP: which it was.");
        is("branch 11 10", 5);
        is("branch 11 0", 10);
        is("branch 1 0", 0);
        is("branch 5 4", 2);
        keeps("branch 5 4", 4);
        is("told 15", 4);
        is("told 21", 0);
        is("apart 11 5", 4);
    }

    private void branchUnknown() {
        promise(2, "UNKNOWN: both, LOOP 0;");
        int[] none = {LEAST, -1, 12, MOST};
        for (int loop : none) {
            keeps("branch " + loop + " 0", UNKNOWN);
            keeps("branch " + loop + " " + loop, UNKNOWN);
            keeps("branch 11 " + loop, UNKNOWN);
            keeps("branch 0 " + loop, UNKNOWN);
        }
        keeps("branch 0 0", UNKNOWN);
        keeps("branch 0 1", UNKNOWN);
        is("branch 1 0", 0);
    }

    private void branchOutside() {
        promise(2, "OUTSIDE: it is not of less number.");
        for (int loop = 1; loop < 12; loop++) {
            is("branch " + loop + " " + loop, OUTSIDE);
            is("branch " + loop + " 11", OUTSIDE);
            if (loop < 11) is("branch " + loop + " " + (loop + 1), OUTSIDE);
        }
        keeps("branch 3 3", OUTSIDE);
        is("branch 3 2", 1);
    }

    private void ballHangs() {
        promise(3, "A BALL hangs on a LOOP");
        is("ball 0 0 0", NONE);
        is("ball 5 11 8", NONE);
        is("told 30", 0);
        is("told 35", 11);
        is("told 1", 2049);
        is("ball 0 1 0", 0);
        is("told 1", 2050);
        promise(3, "with CHIPS;");
        is("ball 0 0 8", NONE);
        is("told 40", 8);
        is("ball 0 0 0", 0);
        is("told 40", 0);
        is("ball 0 -1 3", 0);
        is("told 40", 3);
        is("told 41", 0);
    }

    private void ballIsPacked() {
        promise(3, "(-1: it is PACKED),");
        is("ball 0 -1 8", NONE);
        is("told 40", 8);
        is("told 30", NONE);
        is("ball 0 0 8", NONE);
        is("ball 1 -1 0", NONE);
        is("ball 0 -1 8", 0);
        is("told 1", 0);
        keeps("ball 0 -1 8", NONE);
        keeps("ball 0 -2 8", UNKNOWN);
    }

    private void ballIsNotBroken() {
        promise(3, "it is not BROKEN:");
        set("ball 0 3 8; ball 1 4 8; ball 2 1 0");
        write("d2");
        set("done");
        is("told 2", 3);
        is("ball 0 -1 0", NONE);
        is("told 2", 2);
        is("ball 1 4 8", NONE);
        is("told 2", 0);
        write("AaBb");
        is("judge 1", 2);
        write("AaBc");
        is("judge 1", NONE);
    }

    private void ballTellsWhereItHung() {
        promise(3, "on which it hung (NONE).");
        is("ball 0 3 8", NONE);
        is("ball 0 3 8", 3);
        is("ball 0 0 8", 3);
        is("ball 0 -1 8", 0);
        is("ball 0 3 8", NONE);
        set("ball 1 4 0");
        write("d9");
        set("done");
        is("ball 0 3 0", NONE);
        write(".");
        set("done");
        is("ball 0 3 0", NONE);
    }

    private void ballUnknown() {
        promise(3, "UNKNOWN: both;");
        int[] none = {LEAST, -2, 12, MOST};
        for (int loop : none) keeps("ball 0 " + loop + " 0", UNKNOWN);
        int[] nobody = {LEAST, -1, 6, MOST};
        for (int ball : nobody) keeps("ball " + ball + " 0 0", UNKNOWN);
        keeps("ball 6 12 9", UNKNOWN);
        keeps("ball -1 -1 -1", UNKNOWN);
    }

    private void ballOutside() {
        promise(3, "OUTSIDE: CHIPS 0 to 8;");
        keeps("ball 0 0 -1", OUTSIDE);
        keeps("ball 0 0 9", OUTSIDE);
        keeps("ball 0 -1 9", OUTSIDE);
        keeps("ball 0 -1 -1", OUTSIDE);
        keeps("ball 0 0 " + LEAST, OUTSIDE);
        keeps("ball 0 0 " + MOST, OUTSIDE);
        is("ball 0 0 0", NONE);
        is("ball 0 0 8", 0);
        keeps("ball 1 0 9", OUTSIDE);
    }

    private void ballState() {
        promise(3, "STATE: another one hangs there.");
        set("ball 0 3 8; ball 1 4 0");
        keeps("ball 1 3 0", STATE);
        keeps("ball 0 4 0", STATE);
        keeps("ball 5 3 8", STATE);
        is("ball 0 3 7", 3);
        is("ball 0 0 8", 3);
        is("ball 1 3 0", 4);
        write("d9");
        set("done");
        is("told 2", 1);
        // The one that broke hangs there no more.
        is("ball 2 0 0", NONE);
        is("ball 2 -1 0", 0);
        is("ball 3 -1 0", NONE);
        is("ball 4 0 0", NONE);
    }
}
