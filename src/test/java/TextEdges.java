/** Promises 4 to 6 at their edges: say, wipe, fault. */
final class TextEdges extends Edges {
    private static final String BALLS = "ABCDEF", LOOPS = "abcdefghijkl", DIGITS = "123456789";

    TextEdges(Doc doc, Due due) {
        super(doc, due);
    }

    @Override
    void run() {
        signsFromTo();
        sayHowMany();
        sayOutside();
        sayFull();
        wipe();
        firstSigns();
        secondSigns();
        thirdSigns();
        theFirstWrongSign();
        moreMustCome();
        anEmptyPad();
        faultOrNone();
    }

    private void signsFromTo() {
        terms("4", "WINTERS are a text on a PAD (60 SIGNS at most, codes 33 to 126) of ACTS:");
        for (int sign = 33; sign <= 126; sign++) {
            if (sign == 80) set("wipe");
            is("say " + sign, sign < 80 ? sign - 32 : sign - 79);
        }
        is("told 0", 47);
        set("wipe");
        for (int i = 1; i <= 60; i++) is("say 46", i);
        is("say 46", FULL);
        is("then 3", 60);
    }

    private void sayHowMany() {
        promise(4, "A sign more: how many.");
        is("say 33", 1);
        is("say 126", 2);
        is("told 0", 2);
        is("say 33", 3);
        is("fault", 0);
    }

    private void sayOutside() {
        promise(4, "OUTSIDE;");
        for (int sign : new int[] {LEAST, -46, -1, 0, 31, 32, 127, 128, 256 + 46, 65536 + 46, MOST}) {
            keeps("say " + sign, OUTSIDE);
        }
        is("say 33", 1);
    }

    private void sayFull() {
        promise(4, "FULL.");
        for (int i = 1; i < 60; i++) set("say 46");
        is("say 65", 60);
        keeps("say 97", FULL);
        keeps("say 33", FULL);
        keeps("say 126", FULL);
        is("fault", 60);
        set("wipe");
        is("say 97", 1);
    }

    private void wipe() {
        promise(5, "Signs go: how many there were.");
        keeps("wipe", 0);
        write("Aa!");
        is("wipe", 3);
        keeps("wipe", 0);
        is("told 0", 0);
        is("fault", NONE);
        for (int i = 0; i < 60; i++) set("say 33");
        is("wipe", 60);
        is("say 46", 1);
        is("fault", NONE);
        set("ball 0 0 5; branch 3 2; seen 4 1; image 0");
        is("wipe", 1);
        is("told 1", 1);
        is("told 40", 5);
        is("told 13", 2);
        is("told 4", 1);
        is("restore 0", 1);
    }

    private void fault(String text, int want) {
        write(text);
        is("fault", want);
    }

    private void firstSigns() {
        terms("6", "THE FAULT: the place (from 0 on) of the first sign that can not stand there;");
        for (char sign = 33; sign <= 126; sign++) {
            boolean more = (BALLS + "db").indexOf(sign) >= 0;
            fault("" + sign, more ? 1 : sign == '.' ? NONE : 0);
        }
    }

    private void secondSigns() {
        promise(6, "THE FAULT;");
        for (char head : (BALLS + "db.").toCharArray()) {
            anew();
            String after = head == 'd' ? DIGITS : head == '.' ? "." : LOOPS + (head == 'b' ? "" : "_");
            for (char sign = 33; sign <= 126; sign++) {
                boolean more = head == 'b' || head == '.' && sign != '.';
                boolean fits = after.indexOf(sign) >= 0 || head == '.' && (BALLS + "db").indexOf(sign) >= 0;
                fault("" + head + sign, !fits ? 1 : more ? 2 : NONE);
            }
        }
    }

    private void thirdSigns() {
        terms("6", "b and two LOOPS' letters");
        for (char loop : LOOPS.toCharArray()) {
            anew();
            for (char sign = 33; sign <= 126; sign++) {
                fault("b" + loop + sign, LOOPS.indexOf(sign) >= 0 ? NONE : 2);
            }
        }
    }

    private void theFirstWrongSign() {
        terms("6", "the first sign that can not stand there;");
        fault("!!!", 0);
        fault("Aa!!", 2);
        fault("A!a!", 1);
        fault("bba_", 3);
        fault("d1d0Am", 3);
        fault(".a", 1);
        // What stands well may be an ACT that can not be.
        fault("baaA_d9", NONE);
        StringBuilder text = new StringBuilder();
        for (int i = 0; i < 59; i++) text.append('.');
        fault(text + "!", 59);
        fault(text + ".", NONE);
    }

    private void moreMustCome() {
        terms("6", "the number of signs, if more must come");
        fault("A", 1);
        fault("F", 1);
        fault("d", 1);
        fault("b", 1);
        fault("bl", 2);
        fault("Aab", 3);
        fault("Aabl", 4);
        fault(".....d", 6);
        StringBuilder text = new StringBuilder();
        for (int i = 0; i < 58; i++) text.append('.');
        fault(text + ".A", 60);
        fault(text + "bl", 60);
        fault(text + "Al", NONE);
        fault(text + "b", 59);
    }

    private void anEmptyPad() {
        terms("6 to 8", "(an empty PAD has none).");
        is("fault", NONE);
        is("judge 0", NONE);
        is("done", 0);
        fault("A", 1);
        set("wipe");
        is("fault", NONE);
        fault(".", NONE);
        set("done");
        is("fault", NONE);
    }

    private void faultOrNone() {
        promise(6, "NONE.");
        write("AaF_d9blk.");
        keeps("fault", NONE);
        write("Aa?");
        keeps("fault", 2);
        set("say 46");
        is("fault", 2);
    }
}
