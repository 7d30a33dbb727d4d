/** Every call with numbers at and beyond all edges, in a state where much can go wrong, held against PlainHill. */
public final class WrongNumbersTest {
    private static final Due T = new Due();
    private static final int[] EDGES = {Integer.MIN_VALUE, Integer.MIN_VALUE + 1, Integer.MIN_VALUE + 10,
        Integer.MIN_VALUE + 40, -65536, -100, -13, -12, -7, -6, -5, -3, -2, -1, 0, 1, 2, 3, 4, 5, 6, 7, 8, 9, 10, 11,
        12, 13, 21, 22, 29, 30, 31, 32, 33, 35, 36, 39, 40, 41, 45, 46, 59, 60, 63, 64, 65, 98, 99, 100, 126, 127, 255,
        4095, 4096, 9999, 10000, 65536, 65537, Integer.MAX_VALUE - 1, Integer.MAX_VALUE};

    private static BaubleHill hill = new BaubleHill();
    private static PlainHill plain = new PlainHill();

    private static void anew() {
        hill = new BaubleHill();
        plain = new PlainHill();
        for (int ball = 0; ball < 4; ball++) {
            hill.ball(ball, 3 * ball, 8 - ball);
            plain.ball(ball, 3 * ball, 8 - ball);
        }
        for (int i = 0; i < 4; i++) {
            hill.say("d4Fb".charAt(i));
            plain.say("d4Fb".charAt(i));
        }
        hill.seen(0, 2);
        plain.seen(0, 2);
    }

    private static void told(String call) {
        for (int what = -1; what <= 46; what++) T.due("told " + what + " after " + call, hill.told(what), plain.told(what));
    }

    private static void oneNumber(int a) {
        T.due("judge " + a, hill.judge(a), plain.judge(a));
        T.due("then " + a, hill.then(a), plain.then(a));
        T.due("sees " + a, hill.sees(a), plain.sees(a));
        T.due("near " + a, hill.near(a), plain.near(a));
        T.due("where " + a, hill.where(a), plain.where(a));
        T.due("ask " + a, hill.ask(a), plain.ask(a));
        T.due("cut " + a, hill.cut(a), plain.cut(a));
        T.due("told " + a, hill.told(a), plain.told(a));
        T.due("image " + a, hill.image(a), plain.image(a));
        T.due("restore " + a, hill.restore(a), plain.restore(a));
        T.due("say " + a, hill.say(a), plain.say(a));
        told("one number " + a);
    }

    private static void twoNumbers(int a, int b) {
        String c = " " + a + " " + b;
        T.due("behind" + c, hill.behind(a, b), plain.behind(a, b));
        T.due("apart" + c, hill.apart(a, b), plain.apart(a, b));
        T.due("meets" + c, hill.meets(a, b), plain.meets(a, b));
        T.due("seen" + c, hill.seen(a, b), plain.seen(a, b));
        T.due("where, seen" + c, hill.where(-1), plain.where(-1));
        T.due("branch" + c, hill.branch(a, b), plain.branch(a, b));
        told(c);
    }

    private static void sets(int a, int b) {
        String c = " " + a + " " + b;
        T.due("room" + c, hill.room(a, b), plain.room(a, b));
        T.due("candles" + c, hill.candles(a, b), plain.candles(a, b));
    }

    private static void threeNumbers(int a, int b, int c) {
        String d = " " + a + " " + b + " " + c;
        T.due("ball" + d, hill.ball(a, b, c), plain.ball(a, b, c));
        T.due("year" + d, hill.year(a, b, c), plain.year(a, b, c));
        T.due("LOOPS, ball" + d, hill.told(1), plain.told(1));
    }

    private static void tissue(int a, int place) {
        int[] n = {12, 7, 5, 2, 0, 0};
        n[place] = a;
        String call = "tissue " + java.util.Arrays.toString(n);
        T.due(call, hill.tissue(n[0], n[1], n[2], n[3], n[4], n[5]), plain.tissue(n[0], n[1], n[2], n[3], n[4], n[5]));
    }

    /** All fractions of up to seven BALLS. */
    private static void smallTissues() {
        for (int n = 0; n <= 7; n++)
            for (int r = 0; r <= n; r++)
                for (int k = 0; k <= n; k++)
                    for (int j = 0; j <= k; j++)
                        for (int i = 0; i < 4; i++)
                            T.due("tissue " + n + " " + r + " " + k + " " + j + " " + i,
                                hill.tissue(n, r, k, j, i / 2, i % 2), plain.tissue(n, r, k, j, i / 2, i % 2));
    }

    public static void main(String[] args) {
        for (int a : EDGES) {
            anew();
            oneNumber(a);
            for (int place = 0; place < 6; place++) tissue(a, place);
            for (int b : EDGES) {
                if (b % 16 == 0) anew();
                twoNumbers(a, b);
                sets(a, b);
                for (int c : EDGES) threeNumbers(a, b, c);
            }
        }
        smallTissues();
        T.end();
    }
}
