/** Hills whose trees are known by heart. */
final class Trees {
    private Trees() {
    }

    /** Each LOOP hangs from the one before. */
    static BaubleHill path() {
        BaubleHill hill = new BaubleHill();
        for (int loop = 1; loop < 12; loop++) hill.branch(loop, loop - 1);
        return hill;
    }

    /** Each LOOP hangs from the stem. */
    static BaubleHill star() {
        BaubleHill hill = new BaubleHill();
        for (int loop = 1; loop < 12; loop++) hill.branch(loop, 0);
        return hill;
    }
}
