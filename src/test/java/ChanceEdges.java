/** Promises 22 and 23 at their edges: tissue, year. */
final class ChanceEdges extends Edges {
    private static final long REFUSED = LOST + OUTSIDE;

    ChanceEdges(Doc doc, Due due) {
        super(doc, due);
    }

    @Override
    void run() {
        tissuesFromTo();
        atLeast();
        inTheMean();
        tissue();
        seedsAndActsFromTo();
        fromAllAsItIs();
        leftOver();
        ofBallAndKind();
        hangs();
        isPacked();
        draught();
        branch();
        winter();
        eachIfThatCanBe();
        whatIsTold();
        year();
    }

    private void fraction(String numbers, long upper, long lower) {
        is("tissue " + numbers + " 0", upper);
        is("tissue " + numbers + " 1", lower);
    }

    private void refused(String numbers) {
        for (int i = 0; i < 4; i++) keeps("tissue " + numbers + " " + i / 2 + " " + i % 2, REFUSED);
    }

    private void tissuesFromTo() {
        terms("22", "TISSUE: of n BALLS (0 to 40) r (0 to n) are red; k (0 to n) are unwrapped, each k as likely:");
        fraction("0 0 0 0 0", 1, 1);
        fraction("0 0 0 0 1", 0, 1);
        fraction("40 0 0 0 0", 1, 1);
        fraction("40 40 0 0 1", 0, 1);
        fraction("40 40 40 40 0", 1, 1);
        fraction("40 40 40 40 1", 40, 1);
        fraction("40 0 40 0 1", 0, 1);
        fraction("1 1 1 1 0", 1, 1);
        fraction("1 1 1 1 1", 1, 1);
        fraction("1 1 0 0 1", 0, 1);
        fraction("2 1 1 0 1", 1, 2);
        for (String numbers : new String[] {"41 0 0 0", "-1 0 0 0", "-1 -1 -1 -1", "40 41 0 0", "40 -1 0 0",
            "40 0 41 0", "40 0 -1 0", "0 1 0 0", "0 0 1 0", "5 6 0 0", "5 0 6 0", LEAST + " 0 0 0", MOST + " 0 0 0"})
            refused(numbers);
        // As likely: two of three, one of them red.
        fraction("3 1 2 1 0", 2, 3);
        fraction("4 2 2 2 0", 1, 6);
        fraction("40 20 20 20 0", 1, 137846528820L);
    }

    private void atLeast() {
        terms("22", "that j (0 to k) of them at least are red;");
        // None at least is sure, and more than there are is not to be.
        fraction("5 2 3 0 0", 1, 1);
        fraction("5 2 3 1 0", 9, 10);
        fraction("5 2 3 2 0", 3, 10);
        fraction("5 2 3 3 0", 0, 1);
        fraction("5 4 3 2 0", 1, 1);
        fraction("5 0 3 0 0", 1, 1);
        fraction("5 0 3 1 0", 0, 1);
        fraction("40 20 20 0 0", 1, 1);
        fraction("40 20 20 1 0", 137846528819L, 137846528820L);
        fraction("40 20 20 19 0", 401, 137846528820L);
        refused("5 2 3 4");
        refused("5 2 3 -1");
        refused("5 2 0 1");
        refused("5 5 3 " + MOST);
        refused("5 5 3 " + LEAST);
    }

    private void inTheMean() {
        terms("22", "how many are in the mean (j is no matter, but as told).");
        for (int j = 0; j <= 3; j++) fraction("5 2 3 " + j + " 1", 6, 5);
        keeps("tissue 5 2 3 4 1 0", REFUSED);
        keeps("tissue 5 2 3 -1 1 0", REFUSED);
        fraction("40 39 1 0 1", 39, 40);
        fraction("40 20 20 3 1", 10, 1);
        fraction("39 13 12 0 1", 4, 1);
        fraction("37 36 35 0 1", 1260, 37);
    }

    private void tissue() {
        promise(22, "TISSUE: j at least (what = 0), the mean (1).");
        keeps("tissue 3 1 2 2 0 0", 0);
        keeps("tissue 3 1 2 2 1 0", 2);
        keeps("tissue 3 1 2 2 0 1", 1);
        keeps("tissue 3 1 2 2 1 1", 3);
        promise(22, "OUTSIDE.");
        for (int wrong : new int[] {LEAST, -1, 2, MOST}) {
            for (int right = 0; right < 2; right++) {
                keeps("tissue 3 1 2 2 " + wrong + " " + right, REFUSED);
                keeps("tissue 3 1 2 2 " + right + " " + wrong, REFUSED);
            }
        }
        keeps("tissue 4 5 5 5 0 0", REFUSED);
    }

    /** The answers of a YEAR. */
    private void year(int seed, int m, int hang, int chips, int broken) {
        is("year " + seed + " " + m + " 0", hang);
        is("year " + seed + " " + m + " 1", chips);
        is("year " + seed + " " + m + " 2", broken);
    }

    /** A on d, B on e with 7, C on h with 2. */
    private void hung() {
        anew();
        set("ball 0 3 0; ball 1 4 7; ball 2 7 2");
    }

    private void seedsAndActsFromTo() {
        terms("23", "A YEAR by a seed (0 to 9999) of m ACTS (1 to 99),");
        year(0, 1, 0, 0, 0);
        year(1, 1, 1, 0, 0);
        year(9998, 1, 0, 0, 0);
        year(9999, 1, 1, 0, 0);
        year(9999, 2, 2, 0, 0);
        year(0, 99, 0, 46, 5);
        year(9998, 99, 1, 53, 5);
        year(9999, 99, 0, 46, 3);
        // The last of them is a draught, and of 54 one that hangs B on l.
        year(99, 98, 2, 41, 3);
        year(99, 99, 1, 43, 4);
        year(54, 98, 2, 36, 3);
        year(54, 99, 3, 36, 3);
        for (int wrong : new int[] {LEAST, -1, 10000, MOST}) keeps("year " + wrong + " 1 0", OUTSIDE);
        for (int wrong : new int[] {LEAST, -1, 0, 100, MOST}) keeps("year 0 " + wrong + " 0", OUTSIDE);
    }

    private void fromAllAsItIs() {
        terms("23", "from all as it is:");
        hung();
        year(0, 99, 0, 44, 4);
        year(9998, 99, 0, 54, 6);
        year(9999, 99, 1, 45, 3);
        // The text on the PAD and the SIGHTS are no matter.
        write("d9d9..");
        set("seen 3 0");
        year(9999, 99, 1, 45, 3);
        terms("23", "Nothing is DONE in fact.");
        hung();
        write("Aa");
        set("image 1");
        keeps("year 0 99 0", 0);
        keeps("year 0 99 1", 44);
        keeps("year 9998 99 2", 6);
        keeps("year 15 1 0", 0);
    }

    private void leftOver() {
        terms("23", "x becomes (75 x and 74) left over by 65537;");
        // 872 makes 65474: C hangs on i. 873 makes 65549, so 12: A hangs on a.
        year(872, 1, 1, 0, 0);
        year(873, 1, 1, 0, 0);
        set("ball 2 8 0");
        year(872, 1, 1, 0, 0);
        year(873, 1, 2, 0, 0);
        set("ball 2 -1 0; ball 1 0 0");
        year(873, 1, 1, 0, 0);
        set("ball 0 5 0; ball 1 -1 0");
        year(873, 1, 1, 0, 0);
        // The seed 0 makes 74, by which C is PACKED, then 5624, by which C hangs on j.
        anew();
        set("ball 2 9 0");
        year(0, 1, 0, 0, 0);
        year(0, 2, 1, 0, 0);
    }

    /** The least seed of which the first x tells this BALL (-1: any), this kind, and a z that leaves this by that. */
    private static int seed(int ball, int kind, int left, int by) {
        for (int seed = 0; seed <= 9999; seed++) {
            int x = (75 * seed + 74) % 65537;
            if ((ball < 0 || x % 6 == ball) && x / 6 % 8 == kind && x / 48 % by == left) return seed;
        }
        throw new IllegalStateException("no seed");
    }

    private void ofBallAndKind() {
        terms("23", "of BALL x left over by 6, by x by 6 (cut) left over by 8, z being x by 48 (cut):");
        for (int ball = 0; ball < 6; ball++) {
            anew();
            set("ball " + ball + " 0 0");
            for (int drawn = 0; drawn < 6; drawn++) {
                // Who is drawn is PACKED, or hangs on l, where only another one makes two that hang.
                year(seed(drawn, 4, 0, 1), 1, drawn == ball ? 0 : 1, 0, 0);
                year(seed(drawn, 0, 11, 12), 1, drawn == ball ? 1 : 2, 0, 0);
            }
        }
    }

    private void hangs() {
        terms("23", "0 to 3 it hangs on LOOP z left over by 12,");
        for (int loop = 0; loop < 12; loop++) {
            anew();
            set("ball 5 " + loop + " 0");
            for (int kind = 0; kind < 4; kind++) {
                int other = (loop + 1) % 12;
                year(seed(0, kind, loop, 12), 1, 1, 0, 0);
                year(seed(0, kind, other, 12), 1, 2, 0, 0);
                year(seed(4, kind, loop, 12), 1, 1, 0, 0);
            }
        }
        // 34: a draught of 1, then F hangs on f; 178: on e; what hung keeps its CHIPS.
        anew();
        set("ball 5 0 8; ball 0 5 0");
        year(34, 1, 2, 8, 0);
        year(34, 2, 2, 8, 0);
        year(178, 2, 2, 8, 0);
    }

    private void isPacked() {
        terms("23", "4 it is PACKED,");
        for (int ball = 0; ball < 6; ball++) {
            anew();
            set("ball " + ball + " 3 8");
            year(seed(ball, 4, 0, 1), 1, 0, 8, 0);
        }
    }

    private void draught() {
        terms("23", "5 a draught of 1 and z left over by 9,");
        path();
        set("ball 0 0 0");
        for (int reach = 1; reach <= 9; reach++) {
            set("ball 1 " + reach + " 0");
            year(seed(-1, 5, reach - 1, 9), 1, 2, 2, 0);
            if (reach > 1) year(seed(-1, 5, reach - 2, 9), 1, 2, 0, 0);
        }
        set("ball 1 10 0");
        year(seed(-1, 5, 8, 9), 1, 2, 0, 0);
        set("ball 0 9 8; ball 2 11 7");
        year(seed(-1, 5, 0, 9), 1, 2, 9 + 2 + 8, 1);
    }

    private void branch() {
        terms("23", "6 the PARENT of LOOP z left over by 12 is LOOP z by 12 (cut) left over by 12,");
        // Each is a BRANCH, then a draught of 1, or of 2: i from b, i from g, l from a, l from k.
        set("ball 0 8 0; ball 1 1 0");
        year(1760, 1, 2, 0, 0);
        year(1760, 2, 2, 2, 0);
        set("ball 1 6 0");
        year(3133, 2, 2, 2, 0);
        year(1760, 2, 2, 0, 0);
        set("ball 0 11 0; ball 1 0 0");
        year(4147, 2, 2, 2, 0);
        set("ball 1 10 0");
        year(3350, 2, 2, 2, 0);
        year(4147, 2, 2, 0, 0);
    }

    private void winter() {
        terms("23", "7 a winter, if z left over by 8 is 0;");
        for (int ball = 0; ball < 6; ball++) set("ball " + ball + " " + (11 - ball) + " 8");
        year(seed(-1, 7, 0, 8), 1, 0, 48, 0);
        for (int left = 1; left < 8; left++) year(seed(-1, 7, left, 8), 1, 6, 48, 0);
    }

    private void eachIfThatCanBe() {
        terms("23", "each if that can be:");
        // B breaks: it is not hung on a or PACKED then, 1931, 1747, and may be if it is whole again.
        set("ball 0 3 0; ball 1 4 8");
        write("d2");
        set("done");
        year(1931, 1, 1, 10, 1);
        year(1747, 1, 1, 10, 1);
        set("ball 1 -1 8");
        year(1931, 1, 2, 9, 0);
        // Where another one hangs; one that is PACKED; a draught where one hangs, or none.
        set("ball 2 0 0");
        year(1931, 1, 2, 9, 0);
        year(1747, 1, 2, 9, 0);
        anew();
        year(91, 1, 0, 0, 0);
        set("ball 0 3 8");
        year(91, 1, 1, 8, 0);
        // c from e, f from i, l from l: not of less number, so the draught behind finds them as they were.
        set("ball 0 2 0; ball 1 4 0");
        year(308, 2, 2, 0, 0);
        set("ball 0 5 0; ball 1 8 0");
        year(525, 2, 2, 0, 0);
        set("ball 0 11 0; ball 1 5 0");
        year(3955, 2, 2, 2, 0);
        // f from c, where it is: the draught finds it there.
        set("ball 0 2 0");
        year(2503, 2, 2, 2, 0);
    }

    private void whatIsTold() {
        terms("23", "how many hang; CHIPS of all; how many are BROKEN.");
        year(6, 1, 0, 0, 0);
        for (int ball = 0; ball < 6; ball++) set("ball " + ball + " " + ball + " 8");
        // 6: no winter; 91: a draught of 9 that breaks all; 15: a winter.
        year(6, 1, 6, 48, 0);
        year(91, 1, 0, 54, 6);
        year(15, 1, 0, 48, 0);
        set("ball 5 -1 3");
        year(91, 1, 0, 48, 5);
    }

    private void year() {
        promise(23, "A YEAR: how many hang (what = 0), CHIPS (1), BROKEN ones (2).");
        hung();
        keeps("year 91 1 0", 2);
        keeps("year 91 1 1", 2 + 9 + 4);
        keeps("year 91 1 2", 1);
        promise(23, "OUTSIDE.");
        for (int what : new int[] {LEAST, -1, 3, MOST}) keeps("year 0 1 " + what, OUTSIDE);
        for (int wrong : new int[] {LEAST, -1, 10000, MOST}) {
            for (int what = 0; what < 3; what++) keeps("year " + wrong + " 99 " + what, OUTSIDE);
        }
        for (int wrong : new int[] {LEAST, -1, 0, 100, MOST}) {
            for (int what = 0; what < 3; what++) keeps("year 9999 " + wrong + " " + what, OUTSIDE);
        }
    }
}
