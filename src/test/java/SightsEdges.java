/** Promises 17 to 21 at their edges: seen, forget, where, ask, cut. */
final class SightsEdges extends Edges {
    SightsEdges(Doc doc, Due due) {
        super(doc, due);
    }

    @Override
    void run() {
        notKnown();
        eightAtMost();
        seen();
        seenRefused();
        forget();
        rising();
        where();
        fewestLeft();
        ask();
        cutAtFirst();
        whatFalls();
        whoCanWin();
        theLeastCut();
        cut();
    }

    private void notKnown() {
        terms("17 to 20", "One hangs on a LOOP that is not known.");
        // It is none of the BALLS, and may hang where one of them does.
        is("where -1", 12);
        for (int ball = 0; ball < 6; ball++) set("ball " + ball + " " + ball + " 0");
        is("where -1", 12);
        is("seen 3 0", 1);
        is("where -1", 1);
        is("where 0", 3);
    }

    private void eightAtMost() {
        terms("17", "SIGHTS, 8 at most: it is APART from a LOOP by v (0 to 11).");
        for (int i = 1; i <= 8; i++) is("seen 0 3", i);
        is("seen 0 3", FULL);
        is("told 4", 8);
        is("where -1", 5);
        path();
        is("seen 0 11", 1);
        is("where -1", 1);
        is("where 0", 11);
        is("seen 11 11", 2);
        is("where -1", 0);
        set("forget; seen 11 0");
        is("where 0", 11);
    }

    private void seen() {
        promise(17, "A SIGHT more: how many.");
        is("seen 0 0", 1);
        is("seen 11 11", 2);
        // The same once more is one more.
        is("seen 0 0", 3);
        is("told 4", 3);
    }

    private void seenRefused() {
        promise(17, "UNKNOWN: the LOOP;");
        for (int loop : new int[] {LEAST, -1, 12, MOST}) {
            keeps("seen " + loop + " 0", UNKNOWN);
            keeps("seen " + loop + " 12", UNKNOWN);
        }
        promise(17, "OUTSIDE;");
        for (int v : new int[] {LEAST, -1, 12, MOST}) {
            keeps("seen 0 " + v, OUTSIDE);
            keeps("seen 11 " + v, OUTSIDE);
        }
        promise(17, "FULL.");
        // v from 0 to 7 can not be so all at once.
        for (int v = 0; v < 7; v++) set("seen 0 " + v);
        is("seen 0 7", 8);
        keeps("seen 0 0", FULL);
        keeps("seen 0 12", OUTSIDE);
        keeps("seen 12 0", UNKNOWN);
        set("forget");
        is("seen 0 0", 1);
    }

    private void forget() {
        promise(18, "SIGHTS go: how many there were.");
        keeps("forget", 0);
        set("seen 0 11");
        is("where -1", 0);
        is("forget", 1);
        is("where -1", 12);
        is("told 4", 0);
        keeps("forget", 0);
        for (int i = 0; i < 8; i++) set("seen 0 1");
        is("forget", 8);
        keeps("forget", 0);
        is("seen 3 0", 1);
        is("where 0", 3);
        set("ball 0 0 5; branch 3 2; say 46; image 0");
        is("forget", 1);
        is("told 1", 1);
        is("told 13", 2);
        is("told 0", 1);
        is("restore 0", 1);
        is("told 4", 1);
    }

    private void rising() {
        terms("19", "WHERE: LOOPS by which all SIGHTS are so: how many; the i-th (rising).");
        is("where -1", 12);
        for (int i = 0; i < 12; i++) is("where " + i, i);
        set("seen 0 3");
        is("where -1", 5);
        for (int i = 0; i < 5; i++) is("where " + i, 7 + i);
        set("seen 3 1");
        is("where -1", 2);
        is("where 0", 7);
        is("where 1", 8);
        set("seen 8 0");
        is("where -1", 1);
        is("where 0", 8);
        // The SIGHTS are held against the tree as it is.
        set("branch 8 0");
        is("where -1", 0);
        set("branch 8 3");
        is("where 0", 8);
        set("seen 11 0");
        is("where -1", 0);
        is("where 0", NONE);
    }

    private void where() {
        promise(19, "WHERE: how many (i = -1), the i-th, from 0 on;");
        keeps("where -1", 12);
        keeps("where 0", 0);
        keeps("where 11", 11);
        promise(19, "NONE (i below -1, too).");
        for (int i : new int[] {LEAST, -12, -3, -2, 12, 13, MOST}) keeps("where " + i, NONE);
        set("seen 0 1");
        keeps("where 1", 2);
        keeps("where 2", NONE);
        keeps("where -2", NONE);
        set("seen 0 2");
        keeps("where -1", 0);
        keeps("where 0", NONE);
        keeps("where -2", NONE);
    }

    private void ask(int loop, int many) {
        is("ask 0", loop);
        is("ask 1", many);
    }

    private void fewestLeft() {
        terms("20", "ASK: the LOOP to ask about next, so that, however far it is, fewest of these are left at the most:"
            + " the least; how many.");
        // From d: d; b, h, i; a, e; c, j, k; f, g; l. So it is from e, h, and less from none.
        ask(3, 3);
        // h to l are left: from d h, i and j, k and l; from h each but j, k alone; from i so, too.
        set("seen 0 3");
        ask(3, 2);
        set("seen 3 1");
        ask(7, 1);
        // One fits: whoever is asked about, one is left.
        set("seen 8 0");
        ask(0, 1);
        path();
        ask(0, 1);
        set("seen 5 2");
        ask(0, 1);
        // l alone, as far from a as can be.
        set("forget; seen 11 0");
        ask(0, 1);
        // k and l are as far from all LOOPS but k and l; and from k so are l and i.
        set("forget; branch 11 9");
        ask(0, 2);
        set("seen 0 10");
        ask(10, 1);
        star();
        // From the stem 11 are as far, from a tip 10.
        ask(1, 10);
        set("seen 0 1");
        ask(1, 10);
        set("seen 1 2");
        ask(2, 9);
    }

    private void ask() {
        promise(20, "ASK: the LOOP (what = 0), how many (1);");
        keeps("ask 0", 3);
        keeps("ask 1", 3);
        promise(20, "NONE: nothing fits.");
        set("seen 0 11");
        keeps("ask 0", NONE);
        keeps("ask 1", NONE);
        promise(20, "OUTSIDE.");
        for (int what : new int[] {LEAST, -1, 2, MOST}) keeps("ask " + what, OUTSIDE);
        set("seen 0 11");
        for (int what : new int[] {LEAST, -1, 2, MOST}) keeps("ask " + what, OUTSIDE);
    }

    private void cut(int loop) {
        is("cut 0", 1);
        is("cut 1", loop);
    }

    private void cutAtFirst() {
        terms("21", "CUT: two by turns cut a BRANCH of the tree (each of the eleven, at first);");
        // Two stalks, b to f and g to l: the tip of the longer one is cut, and they are alike.
        path();
        set("branch 6 0");
        cut(11);
        // Three: b; c to f; g to l, which must become five.
        set("branch 2 0");
        cut(11);
        // A BALL that hangs there, a SIGHT and a text are no matter.
        set("ball 0 11 0; seen 0 1; say 46");
        cut(11);
    }

    private void whatFalls() {
        terms("21", "what does not hold to the stem then falls, with its BRANCHES;");
        // The first BRANCH of all: nothing is left.
        path();
        cut(1);
        // b, c and d, e are alike; f to l fall whole.
        set("branch 3 0; branch 5 0");
        cut(5);
        // Two stalks of five on b: b is cut, and all falls.
        path();
        set("branch 7 1");
        cut(1);
    }

    private void whoCanWin() {
        terms("21", "who can not has lost: whether who begins can win (1, 0);");
        // Eleven BRANCHES can not stand so that who begins loses: the last is cut by who begins, or he finds another.
        is("cut 0", 1);
        path();
        is("cut 0", 1);
        star();
        is("cut 0", 1);
        set("branch 11 1; branch 10 2; branch 9 3");
        is("cut 0", 1);
    }

    private void theLeastCut() {
        terms("21", "the LOOP from which the BRANCH leads that he cuts first for it, the least (NONE).");
        star();
        cut(1);
        // Nine stalks of one, and one of two: its tip is cut, and ten are alike.
        set("branch 11 10");
        cut(11);
        // h, i, j, k or l will do: without h, d is worth 2 and e 1, so that b is worth 4, as c is.
        anew();
        cut(7);
    }

    private void cut() {
        promise(21, "CUT: whether (what = 0), which (1; NONE).");
        keeps("cut 0", 1);
        keeps("cut 1", 7);
        promise(21, "OUTSIDE.");
        for (int what : new int[] {LEAST, -1, 2, MOST}) keeps("cut " + what, OUTSIDE);
    }
}
