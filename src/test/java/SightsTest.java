/** Promises 17 to 21: seen, forget, where, ask, cut. */
public final class SightsTest {
    private static final Due T = new Due();

    private static void seenAndForget() {
        BaubleHill hill = new BaubleHill();
        T.due("seen 12 12, UNKNOWN before OUTSIDE", hill.seen(12, 12), -1);
        T.due("seen -1", hill.seen(-1, 0), -1);
        T.due("seen 0 12", hill.seen(0, 12), -2);
        T.due("seen 0 -1", hill.seen(0, -1), -2);
        T.due("SIGHTS", hill.told(4), 0);
        for (int i = 1; i <= 8; i++) T.due("seen, the same once more", hill.seen(0, 2), i);
        T.due("seen, full", hill.seen(0, 2), -4);
        T.due("seen 0 12, full: OUTSIDE before FULL", hill.seen(0, 12), -2);
        T.due("seen 12 0, full: UNKNOWN before FULL", hill.seen(12, 0), -1);
        T.due("SIGHTS, full", hill.told(4), 8);
        T.due("where", hill.where(-1), 4);
        T.due("forget", hill.forget(), 8);
        T.due("forget again", hill.forget(), 0);
        T.due("where, forgotten", hill.where(-1), 12);
        T.due("seen 0 11", hill.seen(0, 11), 1);
        T.due("where, nowhere", hill.where(-1), 0);
        T.due("where 0, nowhere", hill.where(0), -6);
    }

    private static void where() {
        BaubleHill hill = Trees.path();
        for (int i = 0; i < 12; i++) T.due("where " + i, hill.where(i), i);
        T.due("where 12", hill.where(12), -6);
        hill.seen(5, 2);
        T.due("where -1", hill.where(-1), 2);
        T.due("where 0, d", hill.where(0), 3);
        T.due("where 1, h", hill.where(1), 7);
        int[] beyond = {2, -2, Integer.MIN_VALUE, Integer.MAX_VALUE};
        for (int i : beyond) T.due("where " + i, hill.where(i), -6);
        hill.seen(0, 3);
        T.due("where 0, d alone", hill.where(0), 3);
        T.due("where 1, d alone", hill.where(1), -6);
        hill.branch(3, 0);
        // d is on the stem now, and so are all behind it nearer to the stem, but as far from f.
        T.due("where -1, bent", hill.where(-1), 0);
        hill.forget();
        hill.seen(3, 0);
        T.due("where 0, on it", hill.where(0), 3);
    }

    private static void ask(String name, BaubleHill hill, int loop, int many) {
        T.due(name + ": ask 0", hill.ask(0), loop);
        T.due(name + ": ask 1", hill.ask(1), many);
    }

    private static void ask() {
        ask("at first", new BaubleHill(), 3, 3);
        BaubleHill path = Trees.path();
        ask("path", path, 0, 1);
        path.seen(5, 2);
        ask("path, d or h", path, 0, 1);
        T.due("ask 2", path.ask(2), -2);
        T.due("ask -1", path.ask(-1), -2);
        path.forget();
        path.seen(11, 0);
        ask("path, l, as far from a as can be", path, 0, 1);
        path.seen(5, 3);
        ask("path, none fits", path, -6, -6);
        T.due("ask 2, none fits", path.ask(2), -2);
        BaubleHill star = Trees.star();
        ask("star", star, 1, 10);
        star.seen(0, 0);
        ask("star, one fits", star, 0, 1);
        star.forget();
        star.seen(2, 2);
        // Ten leaves fit: to ask about one of them leaves nine, about another LOOP all ten.
        ask("star, all leaves but c", star, 1, 9);
    }

    private static void cut(String name, BaubleHill hill, int loop) {
        // Eleven is odd, and each cut of a tree of heaps keeps to that: who begins always wins.
        T.due(name + ": cut 0", hill.cut(0), 1);
        T.due(name + ": cut 1", hill.cut(1), loop);
    }

    private static void cut() {
        BaubleHill hill = new BaubleHill();
        cut("at first", hill, 7);
        T.due("cut 2", hill.cut(2), -2);
        T.due("cut -1", hill.cut(-1), -2);
        hill.ball(0, 7, 0);
        cut("at first, a BALL on h", hill, 7);
        cut("path", Trees.path(), 1);
        cut("star", Trees.star(), 1);
        BaubleHill two = Trees.path();
        two.branch(6, 0);
        // Stalks of five and of six: the longer one is cut at its tip.
        cut("two stalks", two, 11);
        two.branch(2, 0);
        // Stalks of one, four and six: six must become five.
        cut("three stalks", two, 11);
        BaubleHill short3 = Trees.path();
        short3.branch(3, 0);
        short3.branch(5, 0);
        // Stalks of two, two and seven: the long one goes whole.
        cut("two alike and one", short3, 5);
    }

    public static void main(String[] args) {
        seenAndForget();
        where();
        ask();
        cut();
        T.end();
    }
}
