/** Counts the answers that are not as due, prints them, and ends the test. */
final class Due {
    private static final int SHOWN = 40;
    private int asked = 0;
    private int wrong = 0;

    void due(String call, long got, long want) {
        asked++;
        if (got == want) return;
        wrong++;
        if (wrong <= SHOWN) System.out.println(call + " answered " + got + ", due is " + want);
    }

    /** Says a text on the PAD, which is wiped first. */
    static void write(BaubleHill hill, String text) {
        hill.wipe();
        for (int i = 0; i < text.length(); i++) hill.say(text.charAt(i));
    }

    void end() {
        System.out.println(asked + " answers, " + wrong + " not as due");
        if (wrong != 0 || asked == 0) System.exit(1);
    }
}
