/** Promises 24 to 26 at their edges: image, restore, told; and the last of 512 calls. */
final class ImageEdges extends Edges {
    ImageEdges(Doc doc, Due due) {
        super(doc, due);
    }

    @Override
    void run() {
        allIsKept();
        butThePad();
        twoImages();
        imageOutside();
        asItWasWhenKept();
        restoreRefused();
        told();
        toldOutside();
        theLastCall();
    }

    private void fill() {
        set("ball 0 0 8; ball 1 1 0; ball 2 -1 5; branch 11 10; branch 3 0; seen 0 1; seen 1 2");
        write(".AaBbd1");
        set("done");
    }

    /** What told and where answer of it; the PAD is no matter. */
    private void isFilled() {
        is("told 1", 2);
        is("told 2", 1);
        is("told 3", 1);
        is("told 4", 2);
        is("told 13", 0);
        is("told 21", 10);
        is("told 30", NONE);
        is("told 31", 1);
        is("told 32", NONE);
        is("told 40", 9);
        is("told 41", 1);
        is("told 42", 5);
        is("where -1", 2);
        is("where 0", 2);
        is("where 1", 3);
    }

    private void isNew() {
        for (int what = 1; what < 5; what++) is("told " + what, 0);
        for (int loop = 1; loop < 12; loop++) is("told " + (10 + loop), (loop - 1) / 2);
        for (int ball = 0; ball < 6; ball++) {
            is("told " + (30 + ball), NONE);
            is("told " + (40 + ball), 0);
        }
        is("where -1", 12);
    }

    private void allIsKept() {
        promise(24, "All but the PAD is kept in an IMAGE (0, 1): 1.");
        for (int n = 0; n < 2; n++) {
            anew();
            fill();
            is("image " + n, 1);
            isFilled();
            write(".bcbblaBcCdd9");
            set("done; forget; seen 11 0; seen 10 0; ball 0 5 5");
            is("told 2", 0);
            is("restore " + n, 1);
            isFilled();
        }
    }

    private void butThePad() {
        promise(24, "All but the PAD is kept");
        write("Aa");
        set("image 0");
        write("Bb!");
        set("restore 0");
        is("told 0", 3);
        is("fault", 2);
        set("wipe; restore 0");
        is("told 0", 0);
        is("fault", NONE);
        for (int i = 0; i < 60; i++) set("say 46");
        set("image 1; wipe; restore 1");
        is("say 46", 1);
    }

    private void twoImages() {
        promise(24, "in an IMAGE (0, 1):");
        is("image 1", 1);
        is("restore 0", STATE);
        fill();
        is("image 0", 1);
        is("restore 1", 1);
        isNew();
        // An IMAGE is not kept in an IMAGE: 0 is what it was kept as last.
        is("restore 0", 1);
        isFilled();
        is("image 1", 1);
        set("ball 0 0 0; forget");
        is("image 0", 1);
        is("restore 1", 1);
        isFilled();
        is("restore 0", 1);
        is("told 2", 0);
        is("told 4", 0);
    }

    private void imageOutside() {
        promise(24, "OUTSIDE.");
        for (int n : new int[] {LEAST, -1, 2, MOST}) keeps("image " + n, OUTSIDE);
        is("restore 0", STATE);
        is("restore 1", STATE);
    }

    private void asItWasWhenKept() {
        promise(25, "It is as it was when it was kept: 1.");
        is("image 0", 1);
        fill();
        is("restore 0", 1);
        isNew();
        // It is there still, whatever is done to what it brought back, and with however many SIGHTS.
        fill();
        for (int i = 2; i < 8; i++) set("seen 5 5");
        is("restore 0", 1);
        isNew();
        is("seen 3 0", 1);
        is("where 0", 3);
        keeps("restore 1", STATE);
    }

    private void restoreRefused() {
        promise(25, "OUTSIDE;");
        for (int n : new int[] {LEAST, -1, 2, MOST}) keeps("restore " + n, OUTSIDE);
        set("image 0; image 1; ball 0 0 0");
        for (int n : new int[] {LEAST, -1, 2, MOST}) keeps("restore " + n, OUTSIDE);
        promise(25, "STATE: it was not.");
        keeps("restore 0", STATE);
        keeps("restore 1", STATE);
        set("ball 0 0 0; image 1");
        keeps("restore 0", STATE);
        is("restore 1", 1);
        keeps("restore 0", STATE);
    }

    private void told() {
        promise(26, "0 signs, 1 LOOPS on which BALLS hang (bits), 2 BROKEN ones (bits), 3 the winter, 4 SIGHTS;");
        set("ball 0 0 8; ball 5 1 8");
        write(".AaFbd1BaClbll");
        is("told 0", 14);
        write(".AaFbd1BaCl");
        set("done");
        keeps("told 0", 0);
        keeps("told 1", 1 + 2048);
        keeps("told 2", 1 + 32);
        keeps("told 3", 1);
        keeps("told 4", 0);
        for (int i = 0; i < 60; i++) set("say 33");
        for (int i = 0; i < 8; i++) set("seen 0 0");
        is("told 0", 60);
        is("told 4", 8);
        promise(26, "10 and a LOOP: its PARENT (NONE: 0);");
        path();
        keeps("told 10", NONE);
        for (int loop = 1; loop < 12; loop++) is("told " + (10 + loop), loop - 1);
        promise(26, "30 and a BALL: its LOOP (NONE);");
        for (int ball = 0; ball < 6; ball++) {
            keeps("told " + (30 + ball), NONE);
            set("ball " + ball + " " + (2 * ball + ball % 2) + " 0");
            is("told " + (30 + ball), 2 * ball + ball % 2);
        }
        set("ball 0 0 8");
        write("d9");
        set("done");
        is("told 30", NONE);
        promise(26, "40 and a BALL: CHIPS.");
        for (int ball = 0; ball < 6; ball++) {
            keeps("told " + (40 + ball), 0);
            set("ball " + ball + " " + (ball % 2 == 0 ? -1 : ball) + " " + (8 - ball));
        }
        for (int ball = 0; ball < 6; ball++) is("told " + (40 + ball), 8 - ball);
    }

    private void toldOutside() {
        promise(26, "OUTSIDE.");
        for (int what : new int[] {LEAST, LEAST + 9, LEAST + 10, -10, -1, 5, 9, 22, 29, 36, 39, 46, 50, 100, MOST})
            keeps("told " + what, OUTSIDE);
        for (int what = -2; what < 60; what++) {
            boolean there = what >= 0 && what < 5 || what >= 10 && what < 22 || what >= 30 && what < 36
                || what >= 40 && what < 46;
            if (!there) is("told " + what, OUTSIDE);
        }
    }

    /** The last of the calls is answered as the first would be. */
    private void theLastCall() {
        whole("An object is used for at most 512 calls after it has been made;");
        for (int i = 0; i < 510; i++) set(i % 2 == 0 ? "ball 0 0 8" : "ball 0 11 8");
        is("ball 0 0 7", 11);
        is("told 40", 7);
        anew();
        for (int i = 0; i < 511; i++) set("wipe");
        is("told 21", 5);
    }
}
