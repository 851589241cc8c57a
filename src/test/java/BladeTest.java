/** Promises 4 (blade), 5 (fault), 6 (piece). */
public final class BladeTest {
    private static final Check.Reader BLADE = Check::blade;

    public static void main(String[] args) {
        fine();
        faultsOfTokens();
        faultsOfNumbers();
        toldTwice();
        tooMany();
        tooLong();
        pieces();
        kindStays();
        Check.finish("BladeTest");
    }

    /** Promise 4: texts without a FAULT, the least and the greatest NUMBERS. */
    private static void fine() {
        SingingSaw x = new SingingSaw();
        Check.fine(BLADE, x, "piece 3 1 1;", 3);
        Check.fine(BLADE, x, "piece 60 99 20;", 60);
        Check.fine(BLADE, x, "piece 59 99 20;piece 1 1 1;", 60);
        Check.fine(BLADE, x, "piece 1 9 9;unit 1;piece 1 9 9;bear 9999;piece 1 9 9;", 3);
        Check.fine(BLADE, x, "\n piece\n3   30 5 ; unit 9999 ;\nbear 1;  ", 3);
        Check.fine(BLADE, x, "piece 3 30 5 own-0;", 3);
        Check.fine(BLADE, x, "piece 3 30 5 teeth 0 own - 0;", 3);
    }

    /** Promises 4, 5, Terms 1: FAULT 1 at each kind of TOKEN, and at the end. */
    private static void faultsOfTokens() {
        SingingSaw x = new SingingSaw();
        Check.fault(BLADE, x, "", 0, 1);
        Check.fault(BLADE, x, "   ", 3, 1);
        Check.fault(BLADE, x, ";", 0, 1);
        Check.fault(BLADE, x, "piece 2 30 5;", 13, 1);
        Check.fault(BLADE, x, "piece 2 30 5; \n ", 16, 1);
        Check.fault(BLADE, x, "unit 5;", 7, 1);
        Check.fault(BLADE, x, "piece 3 30 5", 12, 1);
        Check.fault(BLADE, x, "piece 3 30 5 ", 13, 1);
        Check.fault(BLADE, x, "piece 3 30", 10, 1);
        Check.fault(BLADE, x, "piece", 5, 1);
        Check.fault(BLADE, x, "pieces 3 30 5;", 0, 1);
        Check.fault(BLADE, x, "piece3 30 5;", 0, 1);
        Check.fault(BLADE, x, "piece 3 30 5own 0;", 11, 1);
        Check.fault(BLADE, x, "piece 3 30 5;;", 13, 1);
        Check.fault(BLADE, x, "piece 3 30 5;x", 13, 1);
        Check.fault(BLADE, x, "piece 3 30 5,", 12, 1);
        Check.fault(BLADE, x, "piece 3 30 5.", 12, 1);
        Check.fault(BLADE, x, "Piece 3 30 5;", 0, 1);
        Check.fault(BLADE, x, "piece\t3 30 5;", 5, 1);
        Check.fault(BLADE, x, "piece\r3 30 5;", 5, 1);
        Check.fault(BLADE, x, "piece -3 30 5;", 6, 1);
        Check.fault(BLADE, x, "piece 00003 30 5;", 6, 1);
        Check.fault(BLADE, x, "piece 3x 30 5;", 6, 1);
        Check.fault(BLADE, x, "piece 3 30 5 teeth;", 18, 1);
        Check.fault(BLADE, x, "piece 3 30 5 teeth -1;", 19, 1);
        Check.fault(BLADE, x, "piece 3 30 5 own;", 16, 1);
        Check.fault(BLADE, x, "piece 3 30 5 own - ;", 19, 1);
        Check.fault(BLADE, x, "piece 3 30 5 own --4;", 18, 1);
        Check.fault(BLADE, x, "piece 3 30 5 own 4 own 4;", 19, 1);
        Check.fault(BLADE, x, "piece 3 30 5 own 4 teeth 2;", 19, 1);
        Check.fault(BLADE, x, "piece 3 30 5 teeth 2 teeth 2;", 21, 1);
        Check.fault(BLADE, x, "piece 3 30 5;unit;", 17, 1);
        Check.fault(BLADE, x, "piece 3 30 5;unit 12345;", 18, 1);
        Check.fault(BLADE, x, "piece 3 30 5;bear - 4;", 18, 1);
        Check.fault(BLADE, x, "piece 3 30 5;\u00e9", 13, 1);
        Check.fault(BLADE, x, "piece 3 30 5;\u0000", 13, 1);
        Check.due("leading zeros", Check.blade(x, "piece 0003 0030 0005;unit 0010;"), 3);
        Check.due("no blank behind ;", Check.blade(x, "piece 3 30 5;piece 4 4 4;"), 7);
    }

    /** Promises 4, 5, Terms 1: FAULT 2 on each side of each NUMBER. */
    private static void faultsOfNumbers() {
        SingingSaw x = new SingingSaw();
        Check.fault(BLADE, x, "piece 0 30 5;", 6, 2);
        Check.fault(BLADE, x, "piece 61 30 5;", 6, 2);
        Check.fault(BLADE, x, "piece 3 0 5;", 8, 2);
        Check.fault(BLADE, x, "piece 3 100 5;", 8, 2);
        Check.fault(BLADE, x, "piece 3 99 0;", 11, 2);
        Check.fault(BLADE, x, "piece 3 99 21;", 11, 2);
        Check.fault(BLADE, x, "piece 3 99 5 teeth 10;", 19, 2);
        Check.fault(BLADE, x, "piece 3 5 5 teeth 5;", 18, 2);
        Check.fault(BLADE, x, "piece 3 1 5 teeth 1;", 18, 2);
        Check.fine(BLADE, x, "piece 3 5 5 teeth 4;", 3);
        Check.fine(BLADE, x, "piece 3 1 5 teeth 0;", 3);
        Check.fine(BLADE, x, "piece 3 10 5 teeth 9;", 3);
        Check.fault(BLADE, x, "piece 3 5 5 own 100;", 16, 2);
        Check.fault(BLADE, x, "piece 3 5 5 own -100;", 17, 2);
        Check.fault(BLADE, x, "unit 0;", 5, 2);
        Check.fault(BLADE, x, "bear 0;", 5, 2);
        // The first along the text: what is behind it does not count.
        Check.fault(BLADE, x, "piece 3 0 0 teeth 99;;", 8, 2);
        Check.fault(BLADE, x, "piece 3 100", 8, 2);
    }

    /** Promises 4, 5, Terms 1: FAULT 3. */
    private static void toldTwice() {
        SingingSaw x = new SingingSaw();
        Check.fault(BLADE, x, "unit 5;unit 6;", 7, 3);
        Check.fault(BLADE, x, "bear 5;bear 5;", 7, 3);
        Check.fault(BLADE, x, "unit 5;piece 3 5 5;unit", 19, 3);
        Check.fault(BLADE, x, "unit 5 unit 6;", 7, 1);
        Check.fault(BLADE, x, "unit 5;bear 6;bear 0;", 14, 3);
        Check.fine(BLADE, x, "unit 5;bear 6;piece 3 5 5;", 3);
    }

    /** Promises 4, 5, Terms 1: FAULT 4, the 61st PIECE. */
    private static void tooMany() {
        SingingSaw x = new SingingSaw();
        Check.fault(BLADE, x, "piece 59 9 9;piece 2 9 9;", 19, 4);
        Check.fault(BLADE, x, "piece 60 9 9;piece 1 0 9;", 19, 4);
        Check.fault(BLADE, x, "piece 60 9 9;piece 61 9 9;", 19, 2);
        Check.fault(BLADE, x, "piece 60 9 9;piece 0 9 9;", 19, 2);
        Check.fault(BLADE, x, "piece 60 9 9;piece x", 19, 1);
        Check.fault(BLADE, x, "piece 30 9 9;piece 30 9 9;piece 1", 32, 4);
    }

    /** Promises 4, 5, Terms 1: 500 bytes and 501. */
    private static void tooLong() {
        SingingSaw x = new SingingSaw();
        String blade = "piece 3 30 5;";
        Check.fine(BLADE, x, blade + " ".repeat(487), 3);
        Check.fault(BLADE, x, blade + " ".repeat(488), 500, 1);
        Check.fault(BLADE, x, " ".repeat(501), 500, 1);
        Check.fault(BLADE, x, " ".repeat(500), 500, 1);
        Check.fault(BLADE, x, " ".repeat(540), 500, 1);
        Check.fault(BLADE, x, " ".repeat(490) + blade, 500, 1);
        // A TOKEN that begins ahead of 500 is read whole: FAULTS of it are at it.
        x = new SingingSaw();
        Check.fault(BLADE, x, blade + " ".repeat(482) + "unit 12;", 500, 1);
        Check.fault(BLADE, x, blade + " ".repeat(484) + "unitt;", 497, 1);
        Check.fault(BLADE, x, blade + " ".repeat(485) + "unit;", 500, 1);
        Check.fault(BLADE, x, blade + " ".repeat(480) + "unit  12345;", 499, 1);
        Check.fault(BLADE, x, blade + "piece 3" + " ".repeat(479) + "100 5;", 499, 2);
        Check.fault(BLADE, x, blade + "piece 3" + " ".repeat(480) + "100 5;", 500, 1);
        Check.fault(BLADE, x, "piece 60 9 9;piece" + " ".repeat(481) + "11;", 499, 4);
        Check.fault(BLADE, x, "unit 5;" + " ".repeat(492) + "unit 5;", 499, 3);
        Check.fault(BLADE, x, "unit 5;" + " ".repeat(493) + "unit 5;", 500, 1);
        Check.fault(BLADE, x, "x" + " ".repeat(520), 0, 1);
        Check.fault(BLADE, x, blade + " ".repeat(486) + "?  ", 499, 1);
        Check.fault(BLADE, x, blade + " ".repeat(487) + "?  ", 500, 1);
    }

    /** Promise 6: each what of each PIECE, and one outside on each side. */
    private static void pieces() {
        SingingSaw x = new SingingSaw();
        Check.blade(x, "piece 2 30 5;piece 1 99 20 teeth 9 own 99;piece 2 7 3 own -12;piece 1 2 1 teeth 1;");
        int[][] told = {{30, 5, 0, 0, 3750}, {30, 5, 0, 0, 3750}, {99, 20, 9, 99, 720000}, {7, 3, 0, -12, 189}, {7, 3, 0, -12, 189}, {2, 1, 1, 0, 1}};
        for (int i = 0; i < told.length; i++) {
            for (int what = 0; what < 5; what++) {
                Check.due("piece(" + i + ", " + what + ")", Check.piece(x, i, what), told[i][what]);
            }
        }
        int[][] none = {{-1, 0}, {6, 0}, {0, -1}, {0, 5}, {60, 0}, {Integer.MAX_VALUE, 0}, {Integer.MIN_VALUE, 0}, {0, Integer.MIN_VALUE}};
        for (int[] no : none) {
            Check.due("piece(" + no[0] + ", " + no[1] + ")", Check.piece(x, no[0], no[1]), Check.THROWN);
        }
    }

    /** Promises 4, 5: a FAULT leaves the BLADE; fault() is of the latest text alone. */
    private static void kindStays() {
        SingingSaw x = new SingingSaw();
        Check.blade(x, "piece 5 8 4;unit 8;bear 9;");
        Check.blade(x, "piece 4 0");
        Check.due("the blade stays with a FAULT", x.count(0), 5);
        Check.due("its unit", x.count(1), 8);
        Check.due("its bear", x.count(2), 9);
        Check.due("fault()", x.fault(), 2);
        Check.feedNotes(x, 1, 0);
        x.song(0);
        Check.piece(x, 99, 99);
        Check.due("fault() behind other calls", x.fault(), 2);
        Check.hand(x, "");
        Check.due("fault() behind a fine hand()", x.fault(), 0);
        Check.sentence(x, "");
        Check.due("fault() behind a wrong sentence()", x.fault(), 1);
        Check.blade(x, "piece 4 1 1;");
        Check.due("fault() behind a fine blade()", x.fault(), 0);
    }
}
