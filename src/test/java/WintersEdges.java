/** Promises 7 to 10 at their edges: judge, done, behind, then; and the ACTS. */
final class WintersEdges extends Edges {
    private static final String LOOPS = "abcdefghijkl";

    WintersEdges(Doc doc, Due due) {
        super(doc, due);
    }

    @Override
    void run() {
        aLoopsLetter();
        orPacked();
        aDigit();
        allAtOnce();
        thatHang();
        forEachTwo();
        nineOrMore();
        aBranch();
        aWinter();
        theLeastReason();
        reason1();
        reason2();
        reason3();
        reason4();
        reason5();
        reason6();
        judged();
        judge();
        done();
        behindOfABall();
        behindOfAll();
        behind();
        then();
    }

    /** A on d without CHIPS, B on e with 8, C on h with 2: d and e are APART by 2, d and h by 1, e and h by 3. */
    private void hung() {
        anew();
        set("ball 0 3 0; ball 1 4 8; ball 2 7 2");
    }

    private void all(int loops, int broken, int more, int winter, int act, int ball) {
        int[] want = {loops, broken, more, winter, act, ball};
        for (int what = 0; what < 6; what++) is("then " + what, want[what]);
    }

    private void one(int ball, int loop, int chips, int broken) {
        is("behind " + ball + " 0", loop);
        is("behind " + ball + " 1", chips);
        is("behind " + ball + " 2", broken);
    }

    private void judged(String text, int act, int why) {
        write(text);
        is("judge 0", act);
        is("judge 1", why);
    }

    private void aLoopsLetter() {
        terms("7 to 10", "a BALL's letter and: a LOOP's letter (it hangs there),");
        for (int ball = 0; ball < 6; ball++) {
            anew();
            for (int loop = 0; loop < 12; loop++) {
                write("" + "ABCDEF".charAt(ball) + LOOPS.charAt(loop));
                is("behind " + ball + " 0", loop);
                is("then 0", 1 << loop);
            }
        }
        // It leaves the LOOP where it hung, and keeps its CHIPS.
        hung();
        write("BaBbAe");
        one(1, 1, 8, 0);
        is("then 0", 2 + 16 + 128);
    }

    private void orPacked() {
        terms("7 to 10", "or _ (it is PACKED);");
        hung();
        write("B_");
        one(1, NONE, 8, 0);
        is("then 0", 8 + 128);
        write("DlD_C_");
        one(3, NONE, 0, 0);
        one(2, NONE, 2, 0);
    }

    private void aDigit() {
        terms("8 to 10", "d and a digit 1 to 9 (a draught:");
        path();
        set("ball 0 0 0");
        for (int reach = 1; reach <= 9; reach++) {
            set("ball 1 " + reach + " 0");
            write("d" + reach);
            is("then 2", 2);
            if (reach == 1) continue;
            write("d" + (reach - 1));
            is("judge 0", NONE);
            is("then 2", 0);
        }
        set("ball 1 10 0");
        write("d9");
        is("then 2", 0);
        set("ball 1 11 0");
        is("then 2", 0);
    }

    private void allAtOnce() {
        terms("8 to 10", "all at once,");
        path();
        set("ball 0 0 8; ball 1 1 8; ball 2 2 8");
        write("d1");
        all(0, 7, 3, 0, 0, 0);
        // What breaks by one draught is not there for the next.
        set("ball 2 2 7");
        all(4, 3, 3, 0, 0, 0);
        judged("d1d1", 1, 4);
    }

    private void thatHang() {
        terms("8 to 10", "of each two BALLS that hang on LOOPS APART by so many or fewer");
        path();
        set("ball 0 0 0; ball 1 2 0; ball 2 -1 0; ball 3 5 0");
        write("d2");
        one(0, 0, 1, 0);
        one(1, 2, 1, 0);
        one(2, NONE, 0, 0);
        one(3, 5, 0, 0);
        write("d3");
        one(0, 0, 1, 0);
        one(1, 2, 2, 0);
        one(3, 5, 1, 0);
        // D breaks, and C, who hangs there then, gets a CHIP of A and of B alone.
        set("ball 3 3 8");
        write("d1Cdd3");
        one(3, NONE, 9, 1);
        one(0, 0, 2, 0);
        one(1, 2, 3, 0);
        one(2, 3, 2, 0);
    }

    private void forEachTwo() {
        terms("8 to 10", "each gets a CHIP more, for each such two;");
        path();
        for (int ball = 0; ball < 6; ball++) set("ball " + ball + " " + ball + " 0");
        int[] more = {10, 18, 24, 28, 30, 30};
        for (int reach = 1; reach <= 6; reach++) {
            write("d" + reach);
            is("then 2", more[reach - 1]);
        }
        write("d1");
        one(0, 0, 1, 0);
        one(1, 1, 2, 0);
        one(5, 5, 1, 0);
        write("d9");
        for (int ball = 0; ball < 6; ball++) one(ball, ball, 5, 0);
    }

    private void nineOrMore() {
        terms("8 to 10", "one that has 9 then, or more, has 9, and is BROKEN);");
        star();
        for (int ball = 0; ball < 6; ball++) set("ball " + ball + " " + (ball + 1) + " " + (3 + ball));
        // Each gets five: A has 8 then, B 9, C 10, D 11, E 12, F 13.
        write("d2");
        one(0, 1, 8, 0);
        for (int ball = 1; ball < 6; ball++) one(ball, NONE, 9, 1);
        all(2, 62, 53 - 33, 0, 0, 1);
        is("done", 1);
        is("told 1", 2);
        is("told 2", 62);
        is("told 40", 8);
        is("told 41", 9);
        is("told 45", 9);
        is("told 35", NONE);
    }

    private void aBranch() {
        terms("8", "(the first one's PARENT is the second one);");
        write("blk");
        is("done", 1);
        is("told 21", 10);
        is("told 20", 4);
        write("bcbbla");
        is("done", 2);
        is("told 12", 1);
        is("told 21", 0);
        is("told 10", NONE);
        // A draught goes by the BRANCHES as they are then.
        anew();
        set("ball 0 10 0; ball 1 11 0");
        write("d1blkd1");
        is("then 2", 2);
        write("d1");
        is("then 2", 0);
    }

    private void aWinter() {
        terms("8 to 10", ". (a winter: each BALL that hangs is PACKED).");
        for (int ball = 0; ball < 6; ball++) set("ball " + ball + " " + (2 * ball) + " " + (8 - ball));
        write("Al.");
        all(0, 0, 0, 1, NONE, NONE);
        one(0, NONE, 8, 0);
        one(5, NONE, 3, 0);
        set("done; ball 0 3 8; ball 1 4 8");
        write("d9.");
        all(0, 3, 2, 2, 0, 0);
        // Who is BROKEN is not PACKED by it, and it can be if none hangs.
        write("d9...Aa");
        is("judge 0", 4);
        is("judge 1", 1);
    }

    private void theLeastReason() {
        terms("7", "An ACT can not be for the least of these reasons:");
        hung();
        // B breaks, and does not hang, and others hang on d and h.
        judged("d2B_", 1, 1);
        judged("d2Bd", 1, 1);
        judged("d2Bh", 1, 1);
        judged("d2Be", 1, 1);
        judged("d2CeBe", 2, 1);
    }

    private void reason1() {
        terms("7, 8, 23", "1 the BALL is BROKEN;");
        hung();
        judged("Ba", NONE, NONE);
        judged("B_", NONE, NONE);
        judged("d2Ba", 1, 1);
        judged("d2.Ba", 2, 1);
        judged("d2Aa", NONE, NONE);
        write("d2");
        set("done");
        judged("Ba", 0, 1);
        judged("B_", 0, 1);
        is("done", NO);
        // A packed one, and one of 8 CHIPS, is not BROKEN.
        set("ball 1 -1 8");
        judged("Ba", NONE, NONE);
        set("ball 1 4 8");
        write("d2");
        set("done");
        // 1747: B is PACKED by the draw, 1931: B hangs on a; both can not be.
        is("year 1747 1 0", 2);
        is("year 1747 1 2", 1);
        is("year 1931 1 0", 2);
        is("year 1931 1 2", 1);
    }

    private void reason2() {
        terms("7, 8, 23", "2 another one hangs there (a LOOP);");
        hung();
        judged("Ae", 0, 2);
        judged("De", 0, 2);
        judged("FaAa", 1, 2);
        judged("B_Ae", NONE, NONE);
        judged("BaAe", NONE, NONE);
        judged(".Ae", NONE, NONE);
        judged("d2Ae", NONE, NONE);
        judged("AaDdAd", 2, 2);
        // 1780: E hangs on e by the draw, where B hangs; 1748: on c.
        is("year 1780 1 0", 3);
        is("year 1748 1 0", 4);
    }

    private void reason3() {
        terms("7, 8", "3 it hangs there already (a LOOP), it does not hang (_);");
        hung();
        judged("Ad", 0, 3);
        judged("AaAa", 1, 3);
        judged("AaAd", NONE, NONE);
        judged("D_", 0, 3);
        judged("A_A_", 1, 3);
        judged("A_Ad", NONE, NONE);
        judged(".A_", 1, 3);
        judged(".Ad", NONE, NONE);
        set("ball 0 0 0; ball 5 11 0");
        judged("Aa", 0, 3);
        judged("Fl", 0, 3);
    }

    private void reason4() {
        terms("7, 8", "4 no two hang (d);");
        judged("d1", 0, 4);
        judged("d9", 0, 4);
        set("ball 0 0 8");
        judged("d9", 0, 4);
        path();
        set("ball 0 0 8; ball 1 11 0");
        // Two that hang too far from each other hang, too.
        judged("d1", NONE, NONE);
        judged("d9", NONE, NONE);
        is("then 2", 0);
        judged("A_d9", 1, 4);
        judged(".d9", 1, 4);
        set("ball 1 1 0");
        judged("d1d1", 1, 4);
        judged("d1Cad1", NONE, NONE);
    }

    private void reason5() {
        terms("7, 8, 23", "5 the second LOOP is not of less number (b), is the PARENT already (b);");
        int[] parents = {0, 0, 0, 1, 1, 2, 2, 3, 3, 4, 4, 5};
        for (int loop = 0; loop < 12; loop++) {
            anew();
            for (int other = 0; other < 12; other++) {
                boolean can = other < loop && other != parents[loop];
                judged("b" + LOOPS.charAt(loop) + LOOPS.charAt(other), can ? NONE : 0, can ? NONE : 5);
            }
        }
        judged("bdcbdc", 1, 5);
        judged("bdcbdb", NONE, NONE);
        judged("blk.blk", 2, 5);
    }

    private void toWinter(int winter) {
        for (int left = winter; left > 0; left -= 60) {
            set("wipe");
            for (int i = 0; i < Math.min(left, 60); i++) set("say 46");
            set("done");
        }
        is("told 3", winter);
    }

    private void reason6() {
        terms("7, 8, 23", "6 it is winter 99 (.).");
        toWinter(98);
        judged(".", NONE, NONE);
        is("then 3", 99);
        judged("..", 1, 6);
        keeps("done", NO);
        write(".");
        is("done", 1);
        is("told 3", 99);
        set("ball 0 0 0");
        judged(".", 0, 6);
        keeps("done", NO);
        judged("Bbd1bdcB_", NONE, NONE);
        is("then 3", 99);
        // 15: a winter by the draw.
        is("year 15 1 0", 1);
        anew();
        set("ball 0 0 0");
        is("year 15 1 0", 0);
    }

    private void judged() {
        terms("7", "JUDGED: of WINTERS the first ACT (from 0 on) that can not be, and why.");
        hung();
        judged("Ad", 0, 3);
        judged("AaA_A_Ch", 2, 3);
        judged("bdcd1.Adbdc", 4, 5);
        judged("AaA_Aa", NONE, NONE);
        anew();
        for (int i = 0; i < 58; i++) set("say 46");
        set("say 65; say 95");
        is("judge 0", 58);
        is("judge 1", 3);
    }

    private void judge() {
        promise(7, "JUDGED: the ACT (what = 0), why (1);");
        hung();
        write("AaAe");
        keeps("judge 0", 1);
        keeps("judge 1", 2);
        promise(7, "NONE.");
        keeps("judge 0", NONE);
        keeps("judge 1", NONE);
        write("AaAbA_");
        keeps("judge 0", NONE);
        keeps("judge 1", NONE);
        promise(7, "OUTSIDE;");
        for (int what : new int[] {LEAST, -1, 2, MOST}) keeps("judge " + what, OUTSIDE);
        promise(7, "NO: there is a FAULT.");
        for (String text : new String[] {"A", "bb", "A!", "A_a", ".d0", "A_A"}) {
            write(text);
            keeps("judge 0", NO);
            keeps("judge 1", NO);
        }
        // An ACT that can not be is no FAULT.
        write("A_");
        keeps("judge 0", 0);
        keeps("judge 1", 3);
    }

    private void done() {
        terms("8", "DONE: all is so then.");
        hung();
        set("seen 0 2; seen 1 1; image 0");
        write("EaFcd1.FlEkblkd1");
        is("done", 8);
        is("told 1", 1024 + 2048);
        is("told 2", 0);
        is("told 3", 1);
        is("told 21", 10);
        is("told 40", 1);
        is("told 41", 8);
        is("told 42", 3);
        is("told 44", 2);
        is("told 45", 2);
        is("told 34", 10);
        is("told 4", 2);
        is("where 0", 3);
        is("restore 0", 1);
        is("told 1", 152);
        promise(8, "WINTERS on the PAD are DONE (it is empty then): ACTS.");
        keeps("done", 0);
        write("bdc.Aa");
        is("done", 3);
        is("told 0", 0);
        keeps("done", 0);
        is("say 46", 1);
        for (int i = 1; i < 60; i++) set("say 46");
        is("done", 60);
        is("told 0", 0);
        is("told 3", 61);
        promise(8, "NO: there is a FAULT, or an ACT that can not be.");
        hung();
        for (String text : new String[] {"A", "AaB", "AaX", "bdc.b", "Ad", "AaAa", "bdc.bdc", "d2.d2"}) {
            write(text);
            keeps("done", NO);
            is("told 0", text.length());
        }
    }

    private void behindOfABall() {
        terms("9", "BEHIND, likewise, not being DONE:");
        hung();
        write("AaDdd2.blkFl");
        for (int what = 0; what < 3; what++) keeps("behind 1 " + what, what == 0 ? NONE : what == 1 ? 9 : 1);
        keeps("then 0", 2048);
        terms("9", "of a BALL its LOOP (NONE: it does not hang), CHIPS, whether it is BROKEN (1, 0);");
        hung();
        // The PAD is empty: behind it all is as it is.
        one(0, 3, 0, 0);
        one(1, 4, 8, 0);
        one(5, NONE, 0, 0);
        write("AaC_d9");
        one(0, 0, 1, 0);
        one(1, NONE, 9, 1);
        one(2, NONE, 2, 0);
        one(5, NONE, 0, 0);
    }

    private void behindOfAll() {
        terms("10", "of all: LOOPS on which BALLS hang (bits), BROKEN ones (bits),");
        all(0, 0, 0, 0, NONE, NONE);
        write("AaFl");
        all(2049, 0, 0, 0, NONE, NONE);
        set("wipe; ball 0 0 8; ball 5 1 8");
        write("d1");
        all(0, 33, 2, 0, 0, 0);
        terms("10", "by how many all CHIPS are more behind the text (of all BALLS, added),");
        hung();
        is("then 2", 0);
        write("d1");
        is("then 2", 2);
        set("done");
        is("then 2", 0);
        // B has 8 and gets one that counts, though two touch it; A gets three, C two.
        set("ball 0 3 0; ball 1 4 8; ball 2 1 2");
        write("d2d2");
        is("then 2", 2 + 1 + 2 + 1 + 1);
        write("d2d2.");
        is("then 2", 7);
        terms("10", "the winter, the first ACT by which a BALL is BROKEN, which, the least (NONE).");
        hung();
        write("d1");
        all(152, 0, 2, 0, NONE, NONE);
        write("AaAd.BeAdd2");
        all(8, 2, 2, 1, 5, 1);
        // Two break at once, and one of less number breaks later.
        anew();
        set("ball 0 0 8; ball 3 9 8; ball 4 10 8");
        write("blkd2Cbd1");
        is("then 1", 1 + 8 + 16);
        is("then 4", 1);
        is("then 5", 3);
        set("done");
        // BROKEN before the text is not BROKEN by it.
        is("then 4", NONE);
        is("then 5", NONE);
        is("then 1", 25);
    }

    private void behind() {
        promise(9, "BEHIND: its LOOP (what = 0; NONE), CHIPS (1), BROKEN (2).");
        hung();
        write("AaC_d9");
        one(0, 0, 1, 0);
        one(1, NONE, 9, 1);
        promise(9, "UNKNOWN;");
        for (int ball : new int[] {LEAST, -1, 6, MOST}) {
            keeps("behind " + ball + " 0", UNKNOWN);
            keeps("behind " + ball + " 3", UNKNOWN);
        }
        promise(9, "OUTSIDE;");
        for (int what : new int[] {LEAST, -1, 3, MOST}) {
            keeps("behind 0 " + what, OUTSIDE);
            keeps("behind 5 " + what, OUTSIDE);
        }
        promise(9, "NO, as of done().");
        for (String text : new String[] {"A", "AaB", "AaX", "A_", "AaAa", "baa"}) {
            write(text);
            for (int what = 0; what < 3; what++) keeps("behind 0 " + what, NO);
        }
    }

    private void then() {
        promise(10, "BEHIND: LOOPS (what = 0), BROKEN ones (1), CHIPS (2), the winter (3), the ACT (4; NONE),"
            + " the BALL (5; NONE).");
        hung();
        all(152, 0, 0, 0, NONE, NONE);
        write(".AdBed2");
        all(8, 2, 2, 1, 3, 1);
        promise(10, "OUTSIDE;");
        for (int what : new int[] {LEAST, -1, 6, MOST}) keeps("then " + what, OUTSIDE);
        promise(10, "NO, likewise.");
        for (String text : new String[] {"b", "AaB", "AaX", "A_", "AaAa", "d9"}) {
            write(text);
            for (int what = 0; what < 6; what++) keeps("then " + what, NO);
        }
    }
}
