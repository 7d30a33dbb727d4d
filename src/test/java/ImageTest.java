/** Promises 24 to 26: image, restore, told. */
public final class ImageTest {
    private static final Due T = new Due();

    /** What told, where and the like say of a hill that was changed in all its parts. */
    private static void isChanged(BaubleHill hill, String name) {
        T.due(name + ": LOOPS", hill.told(1), 33);
        T.due(name + ": BROKEN", hill.told(2), 2);
        T.due(name + ": winter", hill.told(3), 1);
        T.due(name + ": SIGHTS", hill.told(4), 2);
        T.due(name + ": PARENT of f", hill.told(15), 0);
        T.due(name + ": LOOP of A", hill.told(30), 0);
        T.due(name + ": LOOP of B", hill.told(31), -6);
        T.due(name + ": LOOP of C", hill.told(32), 5);
        T.due(name + ": CHIPS of A", hill.told(40), 2);
        T.due(name + ": CHIPS of B", hill.told(41), 9);
        T.due(name + ": CHIPS of C", hill.told(42), 3);
        T.due(name + ": where", hill.where(0), 11);
        T.due(name + ": where no more", hill.where(1), -6);
    }

    private static void isNew(BaubleHill hill, String name) {
        for (int what = 1; what <= 4; what++) T.due(name + ": told " + what, hill.told(what), 0);
        T.due(name + ": PARENT of f", hill.told(15), 2);
        T.due(name + ": LOOP of A", hill.told(30), -6);
        T.due(name + ": CHIPS of B", hill.told(41), 0);
        T.due(name + ": where", hill.where(-1), 12);
    }

    private static void change(BaubleHill hill) {
        hill.branch(5, 0);
        hill.ball(1, 1, 8);
        hill.ball(2, 5, 1);
        hill.ball(0, 3, 0);
        Due.write(hill, ".AaBbCfd2");
        T.due("done", hill.done(), 5);
        hill.seen(5, 1);
        hill.seen(0, 2);
    }

    private static void imageAndRestore() {
        BaubleHill hill = new BaubleHill();
        T.due("image 2", hill.image(2), -2);
        T.due("image -1", hill.image(-1), -2);
        T.due("restore 2", hill.restore(2), -2);
        T.due("restore -1", hill.restore(-1), -2);
        T.due("restore 0, not kept", hill.restore(0), -3);
        T.due("restore 1, not kept", hill.restore(1), -3);
        T.due("image 0", hill.image(0), 1);
        T.due("restore 1, not kept", hill.restore(1), -3);
        change(hill);
        isChanged(hill, "changed");
        T.due("image 1", hill.image(1), 1);
        isChanged(hill, "kept");
        T.due("restore 0", hill.restore(0), 1);
        isNew(hill, "as at first");
        T.due("restore 1", hill.restore(1), 1);
        isChanged(hill, "brought back");
        hill.ball(1, 9, 0);
        hill.branch(5, 4);
        hill.forget();
        hill.seen(1, 1);
        T.due("restore 1 again", hill.restore(1), 1);
        isChanged(hill, "brought back again");
        T.due("image 0 again", hill.image(0), 1);
        hill.ball(0, -1, 0);
        T.due("restore 0 again", hill.restore(0), 1);
        isChanged(hill, "kept anew");
    }

    private static void thePadIsNotKept() {
        BaubleHill hill = new BaubleHill();
        Due.write(hill, "Aa");
        hill.image(0);
        Due.write(hill, "Bbd1x");
        hill.restore(0);
        T.due("signs", hill.told(0), 5);
        T.due("fault", hill.fault(), 4);
    }

    private static void told() {
        BaubleHill hill = new BaubleHill();
        change(hill);
        Due.write(hill, "abc");
        T.due("signs", hill.told(0), 3);
        T.due("PARENT of the stem", hill.told(10), -6);
        T.due("PARENT of b", hill.told(11), 0);
        T.due("PARENT of l", hill.told(21), 5);
        T.due("LOOP of F", hill.told(35), -6);
        T.due("CHIPS of F", hill.told(45), 0);
        int[] wrong = {-1, 5, 9, 22, 29, 36, 39, 46, 50, Integer.MIN_VALUE, Integer.MIN_VALUE + 9, Integer.MAX_VALUE};
        for (int what : wrong) T.due("told " + what, hill.told(what), -2);
        T.due("restore, refused", hill.restore(0), -3);
        isChanged(hill, "told");
    }

    public static void main(String[] args) {
        imageAndRestore();
        thePadIsNotKept();
        told();
        T.end();
    }
}
