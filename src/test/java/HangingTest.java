/** Promises 1 to 6: a new object, branch, ball, say, wipe, fault. */
public final class HangingTest {
    private static final Due T = new Due();

    private static void newObject() {
        BaubleHill hill = new BaubleHill();
        int[] parents = {-6, 0, 0, 1, 1, 2, 2, 3, 3, 4, 4, 5};
        for (int loop = 0; loop < 12; loop++) T.due("new: PARENT of " + loop, hill.told(10 + loop), parents[loop]);
        for (int ball = 0; ball < 6; ball++) {
            T.due("new: LOOP of " + ball, hill.told(30 + ball), -6);
            T.due("new: CHIPS of " + ball, hill.told(40 + ball), 0);
        }
        for (int what = 0; what <= 4; what++) T.due("new: told " + what, hill.told(what), 0);
        T.due("new: restore 0", hill.restore(0), -3);
        T.due("new: restore 1", hill.restore(1), -3);
        T.due("new: where", hill.where(-1), 12);
        T.due("new: wipe", hill.wipe(), 0);
        T.due("new: forget", hill.forget(), 0);
    }

    private static void branch() {
        BaubleHill hill = new BaubleHill();
        T.due("branch 5 3", hill.branch(5, 3), 2);
        T.due("branch 5 3 again", hill.branch(5, 3), 3);
        T.due("branch 11 10", hill.branch(11, 10), 5);
        T.due("branch 1 0", hill.branch(1, 0), 0);
        T.due("branch 0 0", hill.branch(0, 0), -1);
        T.due("branch 0 5", hill.branch(0, 5), -1);
        T.due("branch 12 0", hill.branch(12, 0), -1);
        T.due("branch -1 0", hill.branch(-1, 0), -1);
        T.due("branch 3 12", hill.branch(3, 12), -1);
        T.due("branch 3 -1", hill.branch(3, -1), -1);
        T.due("branch 3 3", hill.branch(3, 3), -2);
        T.due("branch 3 11", hill.branch(3, 11), -2);
        T.due("branch least", hill.branch(Integer.MIN_VALUE, Integer.MAX_VALUE), -1);
        T.due("PARENT of 3", hill.told(13), 1);
        T.due("PARENT of 5", hill.told(15), 3);
        T.due("PARENT of 11", hill.told(21), 10);
    }

    private static void ball() {
        BaubleHill hill = new BaubleHill();
        T.due("ball A d 0", hill.ball(0, 3, 0), -6);
        T.due("ball A e 8", hill.ball(0, 4, 8), 3);
        T.due("ball A e 2, where it hangs", hill.ball(0, 4, 2), 4);
        T.due("CHIPS of A", hill.told(40), 2);
        T.due("ball A packed", hill.ball(0, -1, 5), 4);
        T.due("ball A packed again", hill.ball(0, -1, 5), -6);
        T.due("LOOP of A", hill.told(30), -6);
        T.due("CHIPS of A, packed", hill.told(40), 5);
        T.due("ball B e 0", hill.ball(1, 4, 0), -6);
        T.due("ball A e, B there", hill.ball(0, 4, 0), -3);
        T.due("ball A e 9, OUTSIDE before STATE", hill.ball(0, 4, 9), -2);
        T.due("ball A e -1", hill.ball(0, 4, -1), -2);
        T.due("ball A m 9, UNKNOWN before OUTSIDE", hill.ball(0, 12, 9), -1);
        T.due("ball A -2", hill.ball(0, -2, 0), -1);
        T.due("ball G", hill.ball(6, 0, 0), -1);
        T.due("ball -1", hill.ball(-1, 0, 0), -1);
        T.due("CHIPS of A, refused", hill.told(40), 5);
        T.due("LOOPS, refused", hill.told(1), 16);
        T.due("ball A f", hill.ball(0, 5, 1), -6);
        T.due("ball A packed, B there", hill.ball(0, -1, 1), 5);
        T.due("ball F l 8", hill.ball(5, 11, 8), -6);
        T.due("ball F a 8", hill.ball(5, 0, 8), 11);
        T.due("LOOPS", hill.told(1), 17);
    }

    private static void brokenBallIsMadeWhole() {
        BaubleHill hill = new BaubleHill();
        hill.ball(0, 3, 8);
        hill.ball(1, 4, 0);
        Due.write(hill, "d2");
        T.due("done", hill.done(), 1);
        T.due("BROKEN", hill.told(2), 1);
        T.due("ball A e, B there", hill.ball(0, 4, 3), -3);
        T.due("BROKEN still", hill.told(2), 1);
        T.due("ball A packed 3", hill.ball(0, -1, 3), -6);
        T.due("BROKEN no more", hill.told(2), 0);
        T.due("CHIPS of A", hill.told(40), 3);
    }

    private static void sayAndWipe() {
        BaubleHill hill = new BaubleHill();
        T.due("say 32", hill.say(32), -2);
        T.due("say 127", hill.say(127), -2);
        T.due("say -1", hill.say(-1), -2);
        T.due("signs", hill.told(0), 0);
        T.due("say 33", hill.say(33), 1);
        T.due("say 126", hill.say(126), 2);
        for (int i = 3; i <= 60; i++) T.due("say " + i, hill.say('.'), i);
        T.due("say, full", hill.say('.'), -4);
        T.due("say 32, full: OUTSIDE before FULL", hill.say(32), -2);
        T.due("signs, full", hill.told(0), 60);
        T.due("wipe", hill.wipe(), 60);
        T.due("wipe again", hill.wipe(), 0);
        T.due("say after wipe", hill.say('x'), 1);
    }

    private static void fault(String text, int want) {
        BaubleHill hill = new BaubleHill();
        Due.write(hill, text);
        T.due("fault of " + text, hill.fault(), want);
        T.due("fault of " + text + " again", hill.fault(), want);
    }

    private static void faults() {
        fault("", -6);
        fault("Aa", -6);
        fault("FlF_", -6);
        fault("d1d9", -6);
        fault("bblbaa", -6);
        fault(".", -6);
        fault("....AaBbd3bdb.", -6);
        fault("A", 1);
        fault("Am", 1);
        fault("A`", 1);
        fault("AA", 1);
        fault("G", 0);
        fault("@", 0);
        fault("a", 0);
        fault("_", 0);
        fault("c", 0);
        fault("e", 0);
        fault("d", 1);
        fault("d0", 1);
        fault("d:", 1);
        fault("d_", 1);
        fault("b", 1);
        fault("b_", 1);
        fault("bb", 2);
        fault("bb_", 2);
        fault("bbm", 2);
        fault("bm", 1);
        fault("..,", 2);
        fault("AaB", 3);
        fault("Aad9b", 5);
        fault("AaXb!", 2);
        fault("!!!!", 0);
        fault("............................................................", -6);
        fault("...........................................................A", 60);
    }

    public static void main(String[] args) {
        newObject();
        branch();
        ball();
        brokenBallIsMadeWhole();
        sayAndWipe();
        faults();
        T.end();
    }
}
