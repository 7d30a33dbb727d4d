/** Promises 7 to 10: judge, done, behind, then. */
public final class WintersTest {
    private static final Due T = new Due();

    /** A on d without CHIPS, B on e with 7, C on h with 2. */
    private static BaubleHill hung() {
        BaubleHill hill = new BaubleHill();
        hill.ball(0, 3, 0);
        hill.ball(1, 4, 7);
        hill.ball(2, 7, 2);
        return hill;
    }

    private static void judged(BaubleHill hill, String text, int act, int why) {
        Due.write(hill, text);
        T.due("judge 0 of " + text, hill.judge(0), act);
        T.due("judge 1 of " + text, hill.judge(1), why);
        if (why == -6) return;
        T.due("done of " + text, hill.done(), -5);
        T.due("signs of " + text, hill.told(0), text.length());
        T.due("LOOPS after " + text, hill.told(1), 152);
        T.due("behind of " + text, hill.behind(0, 0), -5);
        T.due("then of " + text, hill.then(0), -5);
    }

    private static void reasons() {
        BaubleHill hill = hung();
        judged(hill, "", -6, -6);
        judged(hill, "AaA_Aa", -6, -6);
        judged(hill, "Ae", 0, 2);
        judged(hill, "Ad", 0, 3);
        judged(hill, "AaAdAd", 2, 3);
        judged(hill, "D_", 0, 3);
        judged(hill, "DlD_D_", 2, 3);
        judged(hill, "De", 0, 2);
        judged(hill, "A_D_Ae", 1, 3);
        judged(hill, ".d9", 1, 4);
        judged(hill, "A_B_d9", 2, 4);
        judged(hill, "A_d1", -6, -6);
        judged(hill, "BaAld1", -6, -6);
        judged(hill, "bba", 0, 5);
        judged(hill, "bab", 0, 5);
        judged(hill, "baa", 0, 5);
        judged(hill, "bcc", 0, 5);
        judged(hill, "bdc", -6, -6);
        judged(hill, "bdcbdc", 1, 5);
        judged(hill, "bdcbdbbdb", 2, 5);
        judged(hill, "blk", -6, -6);
        judged(hill, "bkl", 0, 5);
        judged(hill, ".A_", 1, 3);
        judged(hill, ".Ae", -6, -6);
    }

    private static void brokenIsTheLeastReason() {
        BaubleHill hill = hung();
        judged(hill, "d3BcAc", 1, 1);
        judged(hill, "d3Bd", 1, 1);
        judged(hill, "d3B_", 1, 1);
        judged(hill, "d3Ae", -6, -6);
        judged(hill, "d3.d3Bd", 2, 4);
        judged(hill, "d3.Bd", 2, 1);
    }

    private static void refusals() {
        BaubleHill hill = hung();
        Due.write(hill, "Aad");
        T.due("judge, a FAULT", hill.judge(0), -5);
        T.due("judge 1, a FAULT", hill.judge(1), -5);
        T.due("judge 2, a FAULT", hill.judge(2), -2);
        T.due("judge -1, a FAULT", hill.judge(-1), -2);
        T.due("done, a FAULT", hill.done(), -5);
        T.due("behind, a FAULT", hill.behind(0, 0), -5);
        T.due("behind 0 3, a FAULT", hill.behind(0, 3), -2);
        T.due("behind 0 -1, a FAULT", hill.behind(0, -1), -2);
        T.due("behind 6 3, a FAULT", hill.behind(6, 3), -1);
        T.due("behind -1 0, a FAULT", hill.behind(-1, 0), -1);
        T.due("then, a FAULT", hill.then(5), -5);
        T.due("then 6, a FAULT", hill.then(6), -2);
        T.due("then -1, a FAULT", hill.then(-1), -2);
        Due.write(hill, "AeX");
        T.due("judge, a FAULT behind an ACT that can not be", hill.judge(0), -5);
        T.due("signs", hill.told(0), 3);
        T.due("LOOPS", hill.told(1), 152);
    }

    private static void then(BaubleHill hill, int[] want) {
        for (int what = 0; what < want.length; what++) T.due("then " + what, hill.then(what), want[what]);
    }

    private static void behind(BaubleHill hill, int ball, int loop, int chips, int broken) {
        T.due("LOOP behind of " + ball, hill.behind(ball, 0), loop);
        T.due("CHIPS behind of " + ball, hill.behind(ball, 1), chips);
        T.due("BROKEN behind of " + ball, hill.behind(ball, 2), broken);
    }

    private static void draughtIsAllAtOnce() {
        BaubleHill hill = new BaubleHill();
        hill.ball(0, 3, 8);
        hill.ball(1, 7, 8);
        hill.ball(2, 8, 0);
        hill.ball(3, -1, 6);
        // d is APART from h and from i by 1, these by 2 from each other.
        Due.write(hill, "d1");
        then(hill, new int[] {256, 3, 3, 0, 0, 0});
        behind(hill, 0, -6, 9, 1);
        behind(hill, 1, -6, 9, 1);
        behind(hill, 2, 8, 1, 0);
        behind(hill, 3, -6, 6, 0);
        Due.write(hill, "AaAdDlC_Ckd1");
        then(hill, new int[] {3072, 3, 2, 0, 5, 0});
        Due.write(hill, "CaAlBkd9Da");
        T.due("judge: C hangs on a still", hill.judge(1), 2);
        Due.write(hill, "CaAlBkd9DlEkEl");
        T.due("judge: D hangs on the LOOP of one that broke", hill.judge(0), 6);
        T.due("judge: E can not", hill.judge(1), 2);
    }

    private static void nothingIsDoneBehind() {
        BaubleHill hill = hung();
        Due.write(hill, "bhg.AhBgd1");
        then(hill, new int[] {192, 0, 2, 1, -6, -6});
        behind(hill, 0, 7, 1, 0);
        behind(hill, 2, -6, 2, 0);
        T.due("LOOPS", hill.told(1), 152);
        T.due("PARENT of h", hill.told(17), 3);
        T.due("winter", hill.told(3), 0);
        T.due("CHIPS of A", hill.told(40), 0);
        T.due("signs", hill.told(0), 10);
        T.due("done", hill.done(), 5);
        T.due("signs, done", hill.told(0), 0);
        T.due("LOOPS, done", hill.told(1), 192);
        T.due("PARENT of h, done", hill.told(17), 6);
        T.due("winter, done", hill.told(3), 1);
        T.due("CHIPS of A, done", hill.told(40), 1);
        T.due("CHIPS of B, done", hill.told(41), 8);
        T.due("done, an empty PAD", hill.done(), 0);
        then(hill, new int[] {192, 0, 0, 1, -6, -6});
    }

    private static void firstToBreak() {
        BaubleHill hill = hung();
        Due.write(hill, "AaAdd2.EaBbd1");
        // A and B, A and C within 2: B has 8 by the first draught and breaks by the second.
        then(hill, new int[] {1, 2, 6, 1, 6, 1});
        // From then on A and C are left, who have 4 each.
        Due.write(hill, "d2d2d2d2d2d2");
        then(hill, new int[] {136, 2, 16, 0, 1, 1});
        Due.write(hill, "d2d2d2d2d2d2d2");
        then(hill, new int[] {0, 7, 18, 0, 1, 1});
        Due.write(hill, "d2d2d2d2d2d2d2d2");
        T.due("judge: none is left for a draught", hill.judge(0), 7);
        T.due("judge 1", hill.judge(1), 4);
    }

    private static void lastWinter() {
        BaubleHill hill = new BaubleHill();
        Due.write(hill, "............................................................");
        T.due("done 60 winters", hill.done(), 60);
        Due.write(hill, "........................................");
        T.due("judge 100 winters", hill.judge(0), 39);
        T.due("why", hill.judge(1), 6);
        hill.wipe();
        Due.write(hill, ".......................................");
        T.due("then 99 winters", hill.then(3), 99);
        T.due("done 99 winters", hill.done(), 39);
        T.due("winter", hill.told(3), 99);
        hill.ball(0, 3, 0);
        Due.write(hill, ".");
        T.due("judge one more", hill.judge(0), 0);
        T.due("why not", hill.judge(1), 6);
        // 15 draws a winter.
        T.due("a YEAR in winter 99 packs nobody", hill.year(15, 1, 0), 1);
    }

    public static void main(String[] args) {
        reasons();
        brokenIsTheLeastReason();
        refusals();
        draughtIsAllAtOnce();
        nothingIsDoneBehind();
        firstToBreak();
        lastWinter();
        T.end();
    }
}
