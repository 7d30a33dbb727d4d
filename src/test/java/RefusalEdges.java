/** The Terms that hold for all calls: refusals, and their order; fractions; sets. */
final class RefusalEdges extends Edges {
    private static final int[] NO_LOOP = {LEAST, -100, -2, -1, 12, 13, 100, MOST};
    private static final int[] NO_BALL = {LEAST, -100, -2, -1, 6, 7, 100, MOST};

    RefusalEdges(Doc doc, Due due) {
        super(doc, due);
    }

    @Override
    void run() {
        theFirstThatFits();
        unknown();
        outside();
        no();
        state();
        full();
        theyChangeNothing();
        fractions();
        refusedFractions();
        sets();
    }

    private void theFirstThatFits() {
        terms("2 to 26", "Calls that are refused answer, the first of these that fits:");
        keeps("branch 3 12", UNKNOWN);
        keeps("branch 0 5", UNKNOWN);
        keeps("branch 0 0", UNKNOWN);
        keeps("ball 6 3 9", UNKNOWN);
        keeps("ball 0 12 9", UNKNOWN);
        set("ball 1 4 0");
        keeps("ball 0 4 9", OUTSIDE);
        keeps("ball 6 4 0", UNKNOWN);
        keeps("near 4", OUTSIDE);
        keeps("restore 2", OUTSIDE);
        anew();
        keeps("near -1", OUTSIDE);
        write("AaB");
        keeps("judge 2", OUTSIDE);
        keeps("then 6", OUTSIDE);
        keeps("behind 0 3", OUTSIDE);
        keeps("behind 6 0", UNKNOWN);
        keeps("behind 6 3", UNKNOWN);
        write("A_");
        keeps("then -1", OUTSIDE);
        keeps("behind 0 -1", OUTSIDE);
        keeps("behind -1 0", UNKNOWN);
    }

    private void theFirstThatFitsWhenFull() {
        for (int i = 0; i < 60; i++) set("say 46");
        for (int i = 0; i < 8; i++) set("seen 0 0");
        keeps("say 32", OUTSIDE);
        keeps("say 127", OUTSIDE);
        keeps("say 33", FULL);
        keeps("seen 12 12", UNKNOWN);
        keeps("seen 12 0", UNKNOWN);
        keeps("seen 11 12", OUTSIDE);
        keeps("seen 11 11", FULL);
    }

    private void unknown() {
        terms("2, 3, 9, 11 to 13, 17", "UNKNOWN -1 (there is no such LOOP, BALL),");
        for (int loop : NO_LOOP) {
            is("branch " + loop + " 0", UNKNOWN);
            is("branch 3 " + loop, UNKNOWN);
            if (loop != -1) is("ball 0 " + loop + " 0", UNKNOWN);
            is("apart " + loop + " 0", UNKNOWN);
            is("apart 0 " + loop, UNKNOWN);
            is("meets " + loop + " 0", UNKNOWN);
            is("meets 0 " + loop, UNKNOWN);
            is("seen " + loop + " 0", UNKNOWN);
        }
        for (int ball : NO_BALL) {
            is("ball " + ball + " 0 0", UNKNOWN);
            is("ball " + ball + " -1 0", UNKNOWN);
            for (int what = 0; what < 3; what++) is("behind " + ball + " " + what, UNKNOWN);
            is("sees " + ball, UNKNOWN);
        }
        keeps("told 1", 0);
    }

    private void outside() {
        terms("2 to 4, 7, 9, 10, 14 to 17, 20 to 26", "OUTSIDE -2 (another number is not as told),");
        for (int wrong : new int[] {LEAST, LEAST + 1, -1000, -1, 127, 10000, MOST - 1, MOST}) {
            is("ball 0 0 " + wrong, OUTSIDE);
            is("say " + wrong, OUTSIDE);
            is("judge " + wrong, OUTSIDE);
            is("behind 0 " + wrong, OUTSIDE);
            is("then " + wrong, OUTSIDE);
            is("near " + wrong, OUTSIDE);
            is("room " + wrong + " 0", OUTSIDE);
            is("room 0 " + wrong, OUTSIDE);
            is("candles " + wrong + " 0", OUTSIDE);
            is("candles 0 " + wrong, OUTSIDE);
            is("seen 0 " + wrong, OUTSIDE);
            is("ask " + wrong, OUTSIDE);
            is("cut " + wrong, OUTSIDE);
            if (wrong != 127) is("year " + wrong + " 1 0", OUTSIDE);
            is("year 0 " + wrong + " 0", OUTSIDE);
            is("year 0 1 " + wrong, OUTSIDE);
            is("image " + wrong, OUTSIDE);
            is("restore " + wrong, OUTSIDE);
            is("told " + wrong, OUTSIDE);
        }
        keeps("branch 1 1", OUTSIDE);
        keeps("branch 10 11", OUTSIDE);
    }

    private void no() {
        terms("7 to 10", "NO -5 (as told),");
        write("d");
        keeps("judge 0", NO);
        keeps("done", NO);
        keeps("behind 0 0", NO);
        keeps("then 0", NO);
    }

    private void state() {
        terms("3, 13, 25", "STATE -3 (as told),");
        set("ball 1 0 8");
        keeps("ball 0 0 0", STATE);
        keeps("sees 0", STATE);
        keeps("restore 1", STATE);
    }

    private void full() {
        terms("4, 17", "FULL -4.");
        theFirstThatFitsWhenFull();
    }

    /** A hill that holds something of all: what a refused call did to it would be seen. */
    private void fill() {
        anew();
        set("ball 0 3 0; ball 1 4 8; ball 2 7 2; ball 3 -1 5; branch 11 10; seen 0 2; image 0");
        write("bkad2.");
        set("done; ball 0 5 1; ball 2 0 3; forget; seen 1 2; seen 2 3");
        write("AaX");
    }

    private void theyChangeNothing() {
        terms("2 to 26", "They change nothing.");
        fill();
        for (String call : new String[] {"branch 0 0", "branch 12 0", "branch 3 12", "ball 6 1 1", "ball 3 12 1",
            "seen 12 1", "behind 6 0", "sees 6", "apart 0 12", "meets 12 0"}) keeps(call, UNKNOWN);
        for (String call : new String[] {"branch 3 3", "branch 3 4", "ball 3 1 9", "ball 3 1 -1", "say 32", "say 127",
            "judge 2", "behind 0 3", "then 6", "near 4", "room 12 0", "room 0 2", "candles -1 0", "seen 1 12", "ask 2",
            "cut 2", "year 10000 1 0", "year 0 100 0", "image 2", "image -1", "restore 2", "restore -1", "told 5"})
            keeps(call, OUTSIDE);
        for (String call : new String[] {"judge 0", "done", "behind 0 0", "then 0"}) keeps(call, NO);
        for (String call : new String[] {"ball 3 5 1", "ball 3 0 1", "sees 3", "restore 1"}) keeps(call, STATE);
        keeps("tissue 41 0 0 0 0 0", LOST + OUTSIDE);
        for (int i = 3; i < 9; i++) set("seen 1 2");
        keeps("seen 1 3", FULL);
        for (int i = 3; i < 60; i++) set("say 46");
        keeps("say 46", FULL);
    }

    private void fractions() {
        terms("22", "Fractions are told in lowest terms by part: 0 the upper, 1 the lower number;");
        // 4 of 6, 3 taken: 12 and 4 of 20 ways have two red at least; in the mean they are 12 by 6.
        is("tissue 6 4 3 2 0 0", 4);
        is("tissue 6 4 3 2 0 1", 5);
        is("tissue 6 4 3 2 1 0", 2);
        is("tissue 6 4 3 2 1 1", 1);
        // Nought is 0 by 1, and the whole is 1 by 1.
        is("tissue 40 0 40 1 0 0", 0);
        is("tissue 40 0 40 1 0 1", 1);
        is("tissue 40 0 40 1 1 0", 0);
        is("tissue 40 0 40 1 1 1", 1);
        is("tissue 40 20 20 0 0 0", 1);
        is("tissue 40 20 20 0 0 1", 1);
    }

    private void refusedFractions() {
        terms("22", "refused with LOST and the refusal.");
        keeps("tissue 41 0 0 0 0 0", -1000000000000000002L);
        keeps("tissue 3 1 1 0 0 2", -1000000000000000002L);
        keeps("tissue " + LEAST + " " + LEAST + " " + LEAST + " " + LEAST + " " + LEAST + " " + LEAST,
            -1000000000000000002L);
        keeps("tissue " + MOST + " " + MOST + " " + MOST + " " + MOST + " " + MOST + " " + MOST,
            -1000000000000000002L);
    }

    private void sets() {
        terms("10, 13, 15, 16, 26", "Sets are bits.");
        set("ball 0 0 0");
        is("told 1", 1);
        set("ball 5 11 8");
        is("told 1", 2049);
        is("sees 0", 32);
        is("sees 5", 1);
        set("ball 4 10 8; branch 11 10");
        write("d1");
        is("then 0", 1);
        is("then 1", 48);
        is("room 0 1", 4095);
        is("candles 0 1", 4095);
    }
}
