import java.util.Random;

/** Promises 1 to 26: runs of 512 calls by chance, each answer held against PlainHill's. */
public final class ChanceRunsTest {
    private static final int RUNS = 600, CALLS = 512;
    private static final int[] ODD = {Integer.MIN_VALUE, Integer.MIN_VALUE + 9, -100, -7, -6, -3, -2, -1, 12, 13, 41,
        60, 99, 100, 127, 9999, 10000, Integer.MAX_VALUE - 30, Integer.MAX_VALUE};

    private final Due due;
    private final Random random;
    private final BaubleHill hill = new BaubleHill();
    private final PlainHill plain = new PlainHill();
    private int calls = 0;
    private final int run;

    private ChanceRunsTest(int run, Due due) {
        this.run = run;
        this.due = due;
        random = new Random(run);
    }

    /** 0 to most, and now and then a number from elsewhere. */
    private int pick(int most) {
        if (random.nextInt(30) == 0) return ODD[random.nextInt(ODD.length)];
        if (random.nextInt(40) == 0) return most + 1;
        return random.nextInt(most + 1);
    }

    private void due(String call, long got, long want) {
        due.due("run " + run + ", call " + calls + ", " + call, got, want);
        calls++;
    }

    private String actText() {
        String loop = "" + (char) ('a' + random.nextInt(12));
        switch (random.nextInt(12)) {
            case 0: return ".";
            case 1: case 2: case 3: return "d" + (1 + random.nextInt(9));
            case 4: case 5: return "b" + (char) ('a' + random.nextInt(12)) + loop;
            case 6: return (char) ('A' + random.nextInt(6)) + "_";
            case 7: return random.nextInt(3) > 0 ? "." : "" + (char) (33 + random.nextInt(94));
            default: return (char) ('A' + random.nextInt(6)) + loop;
        }
    }

    private void write() {
        due("wipe", hill.wipe(), plain.wipe());
        StringBuilder text = new StringBuilder();
        int acts = random.nextInt(random.nextInt(4) == 0 ? 30 : 5);
        for (int i = 0; i < acts; i++) text.append(actText());
        if (random.nextInt(12) == 0 && text.length() > 0) text.setLength(text.length() - 1);
        for (int i = 0; i < text.length() && calls < CALLS - 2; i++) {
            due("say", hill.say(text.charAt(i)), plain.say(text.charAt(i)));
        }
        askText();
    }

    private void askText() {
        due("fault", hill.fault(), plain.fault());
        for (int what = 0; what < 2; what++) due("judge " + what, hill.judge(what), plain.judge(what));
        for (int what = 0; what < 6; what++) due("then " + what, hill.then(what), plain.then(what));
        int ball = pick(5), what = pick(2);
        due("behind " + ball + " " + what, hill.behind(ball, what), plain.behind(ball, what));
        if (random.nextInt(3) > 0) due("done", hill.done(), plain.done());
    }

    private void change() {
        int a = pick(11), b = pick(11), c = pick(5), d = pick(8);
        switch (random.nextInt(7)) {
            case 0: case 1:
                int up = random.nextInt(5) > 0 && a > 0 ? Math.floorMod(b, a) : b;
                due("branch " + a + " " + up, hill.branch(a, up), plain.branch(a, up));
                break;
            case 2: case 3:
                int on = random.nextInt(8) == 0 ? -1 : a;
                due("ball " + c + " " + on + " " + d, hill.ball(c, on, d), plain.ball(c, on, d));
                break;
            case 4:
                int far = random.nextInt(3) == 0 ? pick(11) : pick(4);
                due("seen " + a + " " + far, hill.seen(a, far), plain.seen(a, far));
                if (random.nextInt(4) == 0) due("forget", hill.forget(), plain.forget());
                break;
            case 5:
                int n = pick(1);
                due("image " + n, hill.image(n), plain.image(n));
                break;
            default:
                int m = pick(1);
                if (random.nextInt(3) == 0) due("restore " + m, hill.restore(m), plain.restore(m));
                break;
        }
    }

    private void ask() {
        int a = pick(11), b = pick(11), ball = pick(5), two = pick(1), four = pick(3);
        switch (random.nextInt(12)) {
            case 0: due("apart " + a + " " + b, hill.apart(a, b), plain.apart(a, b)); break;
            case 1: due("meets " + a + " " + b, hill.meets(a, b), plain.meets(a, b)); break;
            case 2: due("sees " + ball, hill.sees(ball), plain.sees(ball)); break;
            case 3: due("near " + four, hill.near(four), plain.near(four)); break;
            case 4: due("where " + (a - 1), hill.where(a - 1), plain.where(a - 1)); break;
            case 5: due("ask " + two, hill.ask(two), plain.ask(two)); break;
            case 6: askSets(a, two); break;
            case 7: due("cut " + two, hill.cut(two), plain.cut(two)); break;
            case 8: askTissue(); break;
            case 9: askYear(); break;
            default: askTold(); break;
        }
    }

    private void askSets(int far, int what) {
        if (random.nextInt(4) > 0) return;
        due("room " + far + " " + what, hill.room(far, what), plain.room(far, what));
        due("candles " + far + " " + what, hill.candles(far, what), plain.candles(far, what));
    }

    private void askTissue() {
        int n = pick(40), r = pick(Math.max(0, Math.min(n, 40))), k = pick(Math.max(0, Math.min(n, 40)));
        int j = pick(Math.max(0, Math.min(k, 40))), what = pick(1), part = pick(1);
        due("tissue " + n + " " + r + " " + k + " " + j + " " + what + " " + part,
            hill.tissue(n, r, k, j, what, part), plain.tissue(n, r, k, j, what, part));
    }

    private void askYear() {
        int seed = pick(9999), m = random.nextInt(20) == 0 ? 0 : 1 + pick(98), what = pick(2);
        due("year " + seed + " " + m + " " + what, hill.year(seed, m, what), plain.year(seed, m, what));
    }

    private void askTold() {
        int what = random.nextBoolean() ? random.nextInt(52) - 2 : pick(50);
        due("told " + what, hill.told(what), plain.told(what));
    }

    /** All that can be told, so that a state that differs is seen even where no call asked for it. */
    private void askAll() {
        for (int what = -1; what <= 50; what++) due("told " + what, hill.told(what), plain.told(what));
    }

    private void run() {
        while (calls < CALLS - 150) {
            int kind = random.nextInt(10);
            if (kind == 0) write();
            else if (kind < 4) change();
            else ask();
        }
        askAll();
    }

    public static void main(String[] args) {
        Due due = new Due();
        for (int run = 0; run < RUNS; run++) new ChanceRunsTest(run, due).run();
        due.end();
    }
}
