/** Promises 11 to 16: apart, meets, sees, near, room, candles. */
public final class WaysTest {
    private static final Due T = new Due();

    private static void ways() {
        BaubleHill hill = new BaubleHill();
        T.due("apart a a", hill.apart(0, 0), 0);
        T.due("apart l l", hill.apart(11, 11), 0);
        T.due("apart a l", hill.apart(0, 11), 3);
        T.due("apart h l", hill.apart(7, 11), 6);
        T.due("apart l h", hill.apart(11, 7), 6);
        T.due("apart h i", hill.apart(7, 8), 2);
        T.due("apart b h", hill.apart(1, 7), 2);
        T.due("meets h i", hill.meets(7, 8), 3);
        T.due("meets k d", hill.meets(10, 3), 1);
        T.due("meets b h", hill.meets(1, 7), 1);
        T.due("meets h b", hill.meets(7, 1), 1);
        T.due("meets h l", hill.meets(7, 11), 0);
        T.due("meets l l", hill.meets(11, 11), 11);
        hill.branch(11, 8);
        T.due("apart h l, bent", hill.apart(7, 11), 3);
        T.due("meets h l, bent", hill.meets(7, 11), 3);
        int[] wrong = {-1, 12, Integer.MIN_VALUE, Integer.MAX_VALUE};
        for (int loop : wrong) {
            T.due("apart 0 " + loop, hill.apart(0, loop), -1);
            T.due("apart 0 of " + loop, hill.apart(loop, 0), -1);
            T.due("meets 0 " + loop, hill.meets(0, loop), -1);
            T.due("meets 0 of " + loop, hill.meets(loop, 0), -1);
            T.due("meets twice " + loop, hill.meets(loop, loop), -1);
        }
        BaubleHill path = Trees.path();
        T.due("path: apart a l", path.apart(0, 11), 11);
        T.due("path: meets c j", path.meets(2, 9), 2);
        BaubleHill star = Trees.star();
        T.due("star: apart b l", star.apart(1, 11), 2);
        T.due("star: meets b l", star.meets(1, 11), 0);
    }

    private static void sees() {
        BaubleHill hill = Trees.path();
        T.due("sees, packed", hill.sees(0), -3);
        T.due("sees 6", hill.sees(6), -1);
        T.due("sees -1", hill.sees(-1), -1);
        hill.ball(0, 0, 0);
        T.due("sees, alone", hill.sees(0), 0);
        hill.ball(5, 11, 0);
        T.due("A sees F", hill.sees(0), 32);
        T.due("F sees A", hill.sees(5), 1);
        hill.ball(2, 5, 0);
        T.due("A sees C before F", hill.sees(0), 4);
        T.due("C sees both", hill.sees(2), 33);
        T.due("F sees C before A", hill.sees(5), 4);
        hill.ball(3, 6, 0);
        T.due("C sees A and D", hill.sees(2), 9);
        Due.write(hill, "D_");
        hill.done();
        T.due("C sees both again", hill.sees(2), 33);
        BaubleHill star = Trees.star();
        for (int ball = 0; ball < 5; ball++) star.ball(ball, ball + 1, 0);
        T.due("star: A sees all others", star.sees(0), 30);
        star.ball(5, 0, 0);
        T.due("star: A sees the stem alone", star.sees(0), 32);
        T.due("star: the stem sees all", star.sees(5), 31);
    }

    private static void near(String name, BaubleHill hill, int[] want) {
        for (int what = 0; what < 4; what++) T.due(name + ": near " + what, hill.near(what), want[what]);
    }

    private static void near() {
        BaubleHill hill = Trees.path();
        near("none hangs", hill, new int[] {-6, -6, -6, -6});
        T.due("near 4", hill.near(4), -2);
        T.due("near -1", hill.near(-1), -2);
        hill.ball(0, 9, 0);
        near("one", hill, new int[] {9, 0, 9, 0});
        hill.ball(0, 0, 0);
        hill.ball(1, 1, 0);
        hill.ball(2, 11, 0);
        near("a b l", hill, new int[] {1, 11, 5, 6});
        hill.ball(0, 2, 0);
        hill.ball(1, 6, 0);
        hill.ball(2, -1, 0);
        near("c g, the least", hill, new int[] {2, 4, 4, 2});
        T.due("near 4, some hang", hill.near(4), -2);
        BaubleHill star = Trees.star();
        star.ball(0, 3, 0);
        star.ball(1, 9, 0);
        near("star: d j", star, new int[] {0, 2, 0, 1});
        star.ball(2, 5, 0);
        near("star: d f j", star, new int[] {0, 3, 0, 1});
    }

    private static void room(String name, BaubleHill hill, int s, int many, int which) {
        T.due(name + ": room " + s + " 0", hill.room(s, 0), many);
        T.due(name + ": room " + s + " 1", hill.room(s, 1), which);
    }

    private static void candles(String name, BaubleHill hill, int r, int many, int which) {
        T.due(name + ": candles " + r + " 0", hill.candles(r, 0), many);
        T.due(name + ": candles " + r + " 1", hill.candles(r, 1), which);
    }

    private static void sets() {
        BaubleHill path = Trees.path();
        room("path", path, 0, 12, 4095);
        room("path", path, 1, 6, 1365);
        room("path", path, 2, 4, 585);
        room("path", path, 4, 3, 1057);
        room("path", path, 10, 2, 2049);
        room("path", path, 11, 1, 1);
        candles("path", path, 0, 12, 4095);
        candles("path", path, 1, 4, 1170);
        candles("path", path, 2, 3, 529);
        candles("path", path, 5, 2, 65);
        candles("path", path, 6, 1, 32);
        candles("path", path, 11, 1, 1);
        BaubleHill star = Trees.star();
        room("star", star, 1, 11, 4094);
        room("star", star, 2, 1, 1);
        candles("star", star, 0, 12, 4095);
        candles("star", star, 1, 1, 1);
        // A path with two tips, k and l, on j.
        BaubleHill fir = Trees.path();
        fir.branch(11, 9);
        room("fir", fir, 1, 7, 3413);
        candles("fir", fir, 1, 4, 585);
        // Where BALLS hang is no matter.
        fir.ball(0, 9, 0);
        room("fir", fir, 1, 7, 3413);
        candles("fir", fir, 1, 4, 585);
    }

    private static void wrongNumbersOfSets() {
        BaubleHill hill = new BaubleHill();
        int[][] wrong = {{-1, 0}, {12, 0}, {0, 2}, {0, -1}, {Integer.MIN_VALUE, 1}, {Integer.MAX_VALUE, 1}};
        for (int[] w : wrong) {
            T.due("room " + w[0] + " " + w[1], hill.room(w[0], w[1]), -2);
            T.due("candles " + w[0] + " " + w[1], hill.candles(w[0], w[1]), -2);
        }
    }

    public static void main(String[] args) {
        ways();
        sees();
        near();
        sets();
        wrongNumbersOfSets();
        T.end();
    }
}
