/**
 * The Terms, sentence by sentence: the last input that is still taken and the first one that is not, on each side that
 * the sentence names. (What a refused call leaves as it is: StaysTest.)
 */
public final class TermsTest {
    private static final Check.Reader BLADE = Check::blade;
    private static final Check.Reader HAND = Check::hand;
    private static final Check.Reader SENTENCE = Check::sentence;

    public static void main(String[] args) {
        bytesOfTexts();
        blanks();
        runsOfLettersAndDigits();
        numbersOfBlades();
        teethBelowWidth();
        unitAndBear();
        piecesInAll();
        firstFault();
        fiveHundred();
        stiffness();
        bendsOfAllCalls();
        curves();
        strains();
        goes();
        places();
        humps();
        keptOrLost();
        ringing();
        bowing();
        numbersOfHands();
        ticksInAll();
        bendOfTicks();
        shaking();
        books();
        songs();
        slips();
        ranges();
        whichBlades();
        forms();
        evens();
        trembles();
        sentences();
        asked();
        Check.finish("TermsTest");
    }

    private static SingingSaw saw() {
        return new SingingSaw();
    }

    private static SingingSaw saw(String blade) {
        SingingSaw x = new SingingSaw();
        Check.due("reading '" + blade + "'", Check.blade(x, blade) > 0, true);
        return x;
    }

    private static String owns(int... owns) {
        return BendTest.own(owns);
    }

    // ==== 1.

    /** Terms 1, 3, 5: "A BLADE is a text of at most 500 bytes", a HAND of at most 300, a SENTENCE of at most 200. */
    private static void bytesOfTexts() {
        String twenty = "piece 1 30 5 own 10;";
        SingingSaw x = saw();
        Check.fine(BLADE, x, twenty.repeat(25), 25);
        Check.due("the last PIECE of 500 bytes", x.piece(24, 3), 10);
        Check.fault(BLADE, x, twenty.repeat(25) + " ", 500, 1);
        Check.fault(BLADE, x, twenty.repeat(26), 500, 1);
        Check.fault(BLADE, x, twenty.repeat(27), 500, 1);
        Check.fine(BLADE, saw(), twenty.repeat(24) + "piece 1 30 5 own 1;", 25);
        String ten = "at 1 2345;";
        x = saw();
        Check.fine(HAND, x, ten.repeat(29) + "wait   17;", 17);
        Check.due("the BEND of 300 bytes", x.tick(17, 1), 2345);
        Check.fault(HAND, x, ten.repeat(29) + "wait   17; ", 300, 1);
        Check.fault(HAND, x, ten.repeat(29) + "wait    17;", 300, 1);
        Check.fine(HAND, saw(), ten.repeat(29) + "wait  17;", 17);
        x = saw();
        Check.fine(SENTENCE, x, "tick<100 or ".repeat(16) + "tick<100", 17);
        Check.fault(SENTENCE, x, "tick<100 or ".repeat(16) + "tick<1000", 200, 1);
        Check.fault(SENTENCE, x, "tick<100 or ".repeat(16) + "tick<100 ", 200, 1);
        Check.fine(SENTENCE, x, "tick<100 or ".repeat(16) + "tick<10", 17);
    }

    /** Terms 1: "TOKENS, with blanks (32, 10) between them or not": no other byte is one. */
    private static void blanks() {
        SingingSaw x = saw();
        for (int c = 0; c < 256; c++) {
            x = c % 16 == 0 ? saw() : x;
            String text = (char) c + "piece 3 30 5;";
            if (c == 32 || c == 10) {
                Check.fine(BLADE, x, text, 3);
                Check.fine(BLADE, x, "piece 3 30" + (char) c + "5" + (char) c + ";" + (char) c, 3);
            } else {
                Check.fault(BLADE, x, text, 0, 1);
            }
        }
        x = saw();
        for (int c : new int[] {0, 9, 11, 12, 13, 31, 33, 42, 127, 128, 138, 160, 255}) {
            Check.fault(HAND, x, "wait 5;" + (char) c, 7, 1);
            Check.fault(SENTENCE, x, "sings" + (char) c + "or sings", 5, 1);
        }
        x = saw();
        Check.fine(BLADE, x, "piece 3 30 5 teeth 4 own-7;", 3);
        Check.fine(BLADE, x, "\n\n piece \n 3 \n\n 30  5 \n teeth  4\nown \n-\n7 ;\n", 3);
        Check.due("own across blanks", x.piece(2, 3), -7);
        Check.fine(HAND, x, "at-1-2;to-3-4 in 5;", 5);
        Check.fine(HAND, x, " at - 1\n- 2 ; \n to - 3 - 4 in\n5;", 5);
        Check.due("a BEND across blanks", x.tick(5, 1), -4);
        Check.fine(SENTENCE, x, "not(tick<3)", 3);
        Check.fine(SENTENCE, x, "\nnot\n(\ntick\n<\n3\n)\n", 3);
    }

    /** Terms 1: "NUMBERS: 1 to 4 digits"; "(A WORD, NUMBER goes on as long as small letters and digits do; ..)". */
    private static void runsOfLettersAndDigits() {
        SingingSaw x = saw();
        Check.fine(BLADE, x, "piece 0003 0030 0005 teeth 0004 own 0007;unit 0011;bear 0012;", 3);
        Check.due("width 0030", x.piece(0, 0), 30);
        Check.due("own 0007", x.piece(0, 3), 7);
        Check.due("unit 0011", x.count(1), 11);
        Check.fault(BLADE, x, "piece 00003 30 5;", 6, 1);
        Check.fault(BLADE, x, "piece 3 00030 5;", 8, 1);
        Check.fault(BLADE, x, "piece 3 30 00005;", 11, 1);
        Check.fault(BLADE, x, "piece 3 30 5 teeth 00004;", 19, 1);
        Check.fault(BLADE, x, "piece 3 30 5 own 00007;", 17, 1);
        Check.fault(BLADE, x, "unit 00011;", 5, 1);
        Check.fault(BLADE, x, "bear 00012;", 5, 1);
        x = saw();
        Check.fault(HAND, x, "at 00001 2;", 3, 1);
        Check.fault(HAND, x, "at 1 -00002;", 6, 1);
        Check.fault(HAND, x, "to 00001 2 in 3;", 3, 1);
        Check.fault(HAND, x, "to 1 2 in 00003;", 10, 1);
        Check.fault(HAND, x, "shake 00001 in 2;", 6, 1);
        Check.fault(HAND, x, "wait 00001;", 5, 1);
        Check.fine(HAND, x, "at 0001 -0002;shake 0001 in 0002;wait 0001;to 0001 0002 in 0001;", 4);
        Check.fine(SENTENCE, x, "tick<0009", 1);
        Check.fault(SENTENCE, x, "tick<00009", 5, 1);
        x = saw();
        Check.fault(BLADE, x, "piece3 30 5;", 0, 1);
        Check.fault(BLADE, x, "piece 3 30 5teeth 4;", 11, 1);
        Check.fault(BLADE, x, "piece 3 30 5 teeth4;", 13, 1);
        Check.fault(BLADE, x, "piecepiece 3 30 5;", 0, 1);
        Check.fault(BLADE, x, "piecea 3 30 5;", 0, 1);
        Check.fault(BLADE, x, "piecez 3 30 5;", 0, 1);
        Check.fault(BLADE, x, "piece 3 30z 5;", 8, 1);
        Check.fault(BLADE, x, "piece 3 30a 5;", 8, 1);
        Check.fault(BLADE, x, "piece 3 3A 5;", 9, 1);
        x = saw();
        Check.fault(BLADE, x, "piece 3 30 5 own4;", 13, 1);
        Check.fault(BLADE, x, "unit5;", 0, 1);
        Check.fault(HAND, x, "wait5;", 0, 1);
        Check.fault(HAND, x, "to 1 2in 3;", 5, 1);
        Check.fault(HAND, x, "to 1 2 in3;", 7, 1);
        Check.fault(SENTENCE, x, "nottick<3", 0, 1);
        Check.fault(SENTENCE, x, "tick<3or tick<4", 5, 1);
        Check.fault(SENTENCE, x, "sings1", 0, 1);
    }

    private static String with(String text, Object number) {
        return text.replace("%", number.toString());
    }

    /** The NUMBER at % is taken from low to high; next to that it has FAULT 2, and what is no NUMBER has FAULT 1. */
    private static void number(Check.Reader reader, String text, int low, int high) {
        int place = text.indexOf('%');
        Check.taken(reader, saw(), with(text, low));
        Check.taken(reader, saw(), with(text, high));
        if (low > 0) {
            Check.fault(reader, saw(), with(text, low - 1), place, 2);
        }
        if (high < 9999) {
            Check.fault(reader, saw(), with(text, high + 1), place, 2);
            Check.fault(reader, saw(), with(text, 9999), place, 2);
        }
        Check.fault(reader, saw(), with(text, 10000), place, 1);
        Check.fault(reader, saw(), with(text, ";"), place, 1);
        Check.fault(reader, saw(), with(text, "x"), place, 1);
    }

    private static void piece(String name, String text, int i, int what, int value) {
        SingingSaw x = saw(text);
        Check.due(name + " of '" + text + "'", x.piece(i, what), value);
    }

    /** Terms 1: "(N PIECES alike, 1 to 60; WIDTH 1 to 99, THICK 1 to 20; T 0 to 9, below WIDTH; K 0 to 99)". */
    private static void numbersOfBlades() {
        Check.fine(BLADE, saw(), "piece 60 30 5;", 60);
        Check.fault(BLADE, saw(), "piece 61 30 5;", 6, 2);
        Check.fine(BLADE, saw(), "piece 2 30 5;piece 1 30 5;", 3);
        Check.fault(BLADE, saw(), "piece 3 30 5;piece 0 30 5;", 19, 2);
                number(BLADE, "piece 3 % 5;", 1, 99);
        number(BLADE, "piece 3 30 %;", 1, 20);
        number(BLADE, "piece 3 30 5 teeth %;", 0, 9);
        number(BLADE, "piece 3 30 5 own %;", 0, 99);
        number(BLADE, "piece 3 30 5 own -%;", 0, 99);
        Check.fault(BLADE, saw(), "piece -3 30 5;", 6, 1);
        Check.fault(BLADE, saw(), "piece 3 -30 5;", 8, 1);
        Check.fault(BLADE, saw(), "piece 3 30 -5;", 11, 1);
        Check.fault(BLADE, saw(), "piece 3 30 5 teeth -1;", 19, 1);
        piece("WIDTH", "piece 3 1 5;", 2, 0, 1);
        piece("WIDTH", "piece 3 99 5;", 2, 0, 99);
        piece("THICK", "piece 3 30 1;", 0, 1, 1);
        piece("THICK", "piece 3 30 20;", 0, 1, 20);
        piece("teeth", "piece 3 30 5 teeth 0;", 1, 2, 0);
        piece("teeth", "piece 3 30 5 teeth 9;", 1, 2, 9);
        piece("own", "piece 3 30 5 own 99;", 1, 3, 99);
        piece("own", "piece 3 30 5 own -99;", 1, 3, -99);
        piece("own", "piece 3 30 5 own -0;", 1, 3, 0);
        piece("teeth without", "piece 3 30 5 own 4;", 1, 2, 0);
        piece("own without", "piece 3 30 5 teeth 4;", 1, 3, 0);
    }

    private static void teethBelowWidth() {
        for (int width = 1; width <= 9; width++) {
            Check.fine(BLADE, saw(), "piece 3 " + width + " 5 teeth " + (width - 1) + ";", 3);
            Check.fault(BLADE, saw(), "piece 3 " + width + " 5 teeth " + width + ";", 18, 2);
        }
        Check.fine(BLADE, saw(), "piece 3 10 5 teeth 9;", 3);
        Check.fault(BLADE, saw(), "piece 3 11 5 teeth 10;", 19, 2);
    }

    /** Terms 1: "'unit' NUMBER (1 to 9999; 300 without) | 'bear' NUMBER (1 to 9999; 2000 without)". */
    private static void unitAndBear() {
        number(BLADE, "piece 3 30 5;unit %;", 1, 9999);
        number(BLADE, "piece 3 30 5;bear %;", 1, 9999);
        for (int value : new int[] {1, 9999}) {
            SingingSaw x = saw("unit " + value + ";piece 3 30 5;");
            Check.due("Promise 37: unit " + value, x.count(1), value);
            Check.due("Promise 37: bear without", x.count(2), 2000);
            x = saw("bear " + value + ";piece 3 30 5;");
            Check.due("Promise 37: unit without", x.count(1), 300);
            Check.due("Promise 37: bear " + value, x.count(2), value);
        }
        // "3 unit or bear told twice (at it)": the second one, whatever comes behind it; one of each is fine.
        Check.fault(BLADE, saw(), "unit 300;piece 3 30 5;unit 300;", 22, 3);
        Check.fault(BLADE, saw(), "bear 2000;piece 3 30 5;bear 2000;", 23, 3);
        Check.fault(BLADE, saw(), "unit 1;unit", 7, 3);
        Check.fault(BLADE, saw(), "bear 1;bear 0;", 7, 3);
        Check.fault(BLADE, saw(), "unit 1;bear 1;unit ;", 14, 3);
        Check.fine(BLADE, saw(), "bear 1;unit 1;piece 3 30 5;", 3);
    }

    /** Terms 1: "3 to 60 PIECES in all"; FAULT 1 "also at the end with fewer than 3 PIECES"; "4 more than 60 PIECES (at N)". */
    private static void piecesInAll() {
        Check.fault(BLADE, saw(), "piece 2 30 5;", 13, 1);
        Check.fault(BLADE, saw(), "piece 1 30 5;piece 1 30 5; \n", 28, 1);
        Check.fine(BLADE, saw(), "piece 3 30 5;", 3);
        Check.fine(BLADE, saw(), "piece 1 30 5;piece 2 30 5;", 3);
        Check.fine(BLADE, saw(), "piece 1 30 5;piece 59 30 5;", 60);
        Check.fault(BLADE, saw(), "piece 1 30 5;piece 60 30 5;", 19, 4);
        Check.fault(BLADE, saw(), "piece 60 30 5;piece 1 30 5;", 20, 4);
        Check.fault(BLADE, saw(), "piece 20 30 5;piece 20 30 5;piece 21 30 5;", 34, 4);
        Check.fault(BLADE, saw(), "piece 60 30 5;piece 60 0 0;", 20, 4);
        // PIECE 0 is at the knee, the last one at the tip, in the order of the text.
        SingingSaw x = saw("piece 1 11 5;piece 58 22 5;piece 1 33 5;");
        Check.due("the knee", x.piece(0, 0), 11);
        Check.due("PIECE 58", x.piece(58, 0), 22);
        Check.due("the tip", x.piece(59, 0), 33);
        Check.due("behind the tip", Check.piece(x, 60, 0), Check.THROWN);
    }

    /** Terms 1: "FAULTS, the first along the text, of one TOKEN the least". */
    private static void firstFault() {
        Check.fault(BLADE, saw(), "piece 60 30 5;piece 61 30 5;", 20, 2);
        Check.fault(BLADE, saw(), "piece 60 30 5;piece 0 30 5;", 20, 2);
        Check.fault(BLADE, saw(), "piece 60 30 5;piece 10000 30 5;", 20, 1);
        Check.fault(BLADE, saw(), "piece 60 30 5;piece - 30 5;", 20, 1);
        Check.fault(BLADE, saw(), "piece 3 0 5;unit 0;?", 8, 2);
        Check.fault(BLADE, saw(), "unit 5;unit 0;?", 7, 3);
        Check.fault(BLADE, saw(), "unit 5;piece 60 3 3;piece 1 0 0;unit 5;?", 26, 4);
        Check.fault(BLADE, saw(), "? unit 0;", 0, 1);
        Check.fault(HAND, saw(), "wait 99;wait 99;wait 100;", 21, 2);
        Check.fault(HAND, saw(), "wait 99;wait 99;wait 0;", 21, 2);
        Check.fault(HAND, saw(), "wait 99;wait 99;wait ten;", 21, 1);
        Check.fault(HAND, saw(), "wait 99;wait 99;shake 1000 in 99;", 22, 2);
        Check.fault(HAND, saw(), "wait 99;wait 99;wait 3 ?", 21, 4);
        Check.fault(SENTENCE, saw(), "not ".repeat(8) + "?", 32, 1);
        Check.fault(SENTENCE, saw(), "not ".repeat(8) + "tick ?", 32, 4);
        // "1 no TOKEN, or one that can't come (at it; the end: how many bytes there are".
        Check.fault(BLADE, saw(), "piece 3 30", 10, 1);
        Check.fault(BLADE, saw(), "piece 3 30 \n \n", 14, 1);
        Check.fault(HAND, saw(), "to 1 2 in", 9, 1);
        Check.fault(HAND, saw(), "to 1 2 in\n\n", 11, 1);
        Check.fault(SENTENCE, saw(), "tick<", 5, 1);
        Check.fault(SENTENCE, saw(), "tick< ", 6, 1);
        Check.fault(BLADE, saw(), "", 0, 1);
        Check.fault(SENTENCE, saw(), "", 0, 1);
        Check.fine(HAND, saw(), "", 0);
    }

    /** Terms 1: "500, if there are more and no FAULT is ahead: TOKENS that begin ahead of it are read whole" (300, 200 likewise). */
    private static void fiveHundred() {
        String two = "piece 2 30 5;";
        // Fewer than 3 PIECES at the end: the end, or 500.
        Check.fault(BLADE, saw(), two + " ".repeat(487), 500, 1);
        Check.fault(BLADE, saw(), two + " ".repeat(486), 499, 1);
        Check.fault(BLADE, saw(), two + " ".repeat(520), 500, 1);
        // A FAULT ahead of 500 is the first one, one at 500 or behind is none of its own.
        Check.fault(BLADE, saw(), two + " ".repeat(486) + "?" + " ".repeat(20), 499, 1);
        Check.fault(BLADE, saw(), two + " ".repeat(487) + "?" + " ".repeat(20), 500, 1);
        Check.fault(BLADE, saw(), two + "unit" + " ".repeat(482) + "0000" + ";", 499, 2);
        Check.fault(BLADE, saw(), two + "unit" + " ".repeat(482) + "0001" + ";", 500, 1);
        Check.fault(BLADE, saw(), two + "unit" + " ".repeat(482) + "00010" + ";", 499, 1);
        Check.fault(BLADE, saw(), two + "unit" + " ".repeat(483) + "0000" + ";", 500, 1);
        Check.fault(BLADE, saw(), "unit 3;" + two + " ".repeat(479) + "unit 3;", 499, 3);
        Check.fault(BLADE, saw(), "unit 3;" + two + " ".repeat(480) + "unit 3;", 500, 1);
        Check.fault(BLADE, saw(), "piece 59 30 5;piece" + " ".repeat(480) + "02 3 3;", 499, 4);
        Check.fault(BLADE, saw(), "piece 59 30 5;piece" + " ".repeat(480) + "01 3 3;", 500, 1);
        Check.fault(HAND, saw(), "wait" + " ".repeat(295) + "00;", 299, 2);
        Check.fault(HAND, saw(), "wait" + " ".repeat(295) + "01;", 300, 1);
        Check.fault(HAND, saw(), "wait 99;wait 99;wait" + " ".repeat(279) + "03;", 299, 4);
        Check.fault(HAND, saw(), "wait 99;wait 99;wait" + " ".repeat(279) + "02;", 300, 1);
        Check.fault(HAND, saw(), " ".repeat(300) + "?", 300, 1);
        Check.fine(HAND, saw(), " ".repeat(300), 0);
        Check.fault(HAND, saw(), " ".repeat(301), 300, 1);
        Check.fault(SENTENCE, saw(), "not ".repeat(8) + " ".repeat(167) + "sings", 199, 4);
        Check.fault(SENTENCE, saw(), "not ".repeat(7) + " ".repeat(171) + "sings", 200, 1);
        Check.fault(SENTENCE, saw(), "not ".repeat(8) + " ".repeat(168) + "sings", 200, 1);
        Check.fault(SENTENCE, saw(), " ".repeat(200), 200, 1);
        Check.fault(SENTENCE, saw(), " ".repeat(199), 199, 1);
        Check.fine(SENTENCE, saw(), " ".repeat(195) + "sings", 1);
        Check.fault(SENTENCE, saw(), " ".repeat(196) + "sings", 200, 1);
    }

    /** Terms 1: "STIFFNESS of a PIECE: (WIDTH less T) times THICK times THICK times THICK." */
    private static void stiffness() {
        piece("STIFFNESS", "piece 3 1 1;", 2, 4, 1);
        piece("STIFFNESS", "piece 3 9 1 teeth 8;", 0, 4, 1);
        piece("STIFFNESS", "piece 3 99 20;", 1, 4, 792000);
        piece("STIFFNESS", "piece 3 99 20 teeth 9;", 1, 4, 720000);
        piece("STIFFNESS", "piece 3 7 3 teeth 2;", 1, 4, 135);
    }

    // ==== 2.

    /** Terms 2: "A BEND: a at the knee, b at the tip (-9999 to 9999 each)": in each call that takes one. */
    private static void bendsOfAllCalls() {
        int[] ends = {-10000, -9999, 9999, 10000};
        for (int a : ends) {
            for (int b : ends) {
                boolean isOne = Math.abs(a) < 10000 && Math.abs(b) < 10000;
                String bend = "(" + a + ", " + b + ")";
                SingingSaw x = saw("piece 60 99 20;unit 1;bear 9999;");
                Check.due("Promise 7: bend" + bend, Check.bend(x, a, b, 0, 0), isOne ? a / 792 : Check.THROWN);
                Check.due("Promise 7: bend" + bend, Check.bend(x, a, b, 59, 1), isOne ? 240 : Check.THROWN);
                Check.due("Promise 8: breaks" + bend, x.breaks(a, b), isOne ? -1 : -2);
                Check.due("Promise 9: place" + bend, x.place(a, b, -1), isOne ? 1 : -1);
                Check.due("Promise 10: tone" + bend, x.tone(a, b, 0, 0) > 0, isOne);
                Check.due("Promise 13: where" + bend, x.where(a, b, 0, 0, 1) >= 0, isOne);
                Check.due("Promise 17: write" + bend, x.write(a, b), isOne ? 0 : -1);
                // An S alone has a VOICE.
                Check.due("Promise 26: tremble" + bend, x.tremble(a, b, 0), isOne && a * b < 0 ? 0 : -1);
            }
        }
    }

    private static void curves(String blade, int a, int b, int... curves) {
        SingingSaw x = saw(blade);
        for (int i = 0; i < curves.length; i++) {
            Check.due("bend(" + a + ", " + b + ", " + i + ", 0) of " + blade, x.bend(a, b, i, 0), curves[i]);
        }
    }

    /** Terms 2: "cut towards 0" twice, "and 'own' besides; 2000 either way at most". */
    private static void curves() {
        curves("piece 3 1 1;", 2, 2, 2000, 2000, 2000);
        curves("piece 3 1 1;", 3, -3, 2000, 0, -2000);
        curves("piece 3 1 1 own 1;", 2, -2, 2000, 1, -1999);
        curves("piece 3 1 1 own -1;", 2, -2, 1999, -1, -2000);
        curves("piece 3 1 1 own -99;", 9999, -9999, 2000, -99, -2000);
        curves("piece 4 1 1;", 1, -1, 1000, 0, 0, -1000);
        curves("piece 4 1 1;", 2, -1, 2000, 1000, 0, -1000);
        curves("piece 4 1 1;", -2, 1, -2000, -1000, 0, 1000);
        curves("piece 4 1 1;", -5, 0, -2000, -2000, -1000, 0);
        curves("piece 3 7 1;", 1, -1, 142, 0, -142);
        curves("piece 3 7 1 own 3;", 1, -1, 145, 3, -139);
        curves("piece 3 7 1 own -3;", -1, 1, -145, -3, 139);
        curves("piece 60 99 20;", 9999, 9999, 12, 12, 12);
        curves("piece 3 99 20;", 791, -791, 0, 0, 0);
        curves("piece 3 99 20;", 792, -792, 1, 0, -1);
    }

    /** Terms 2: "STRAIN: CURVE without sign times THICK. It is BROKEN, if a STRAIN is above 'bear'." */
    private static void strains() {
        SingingSaw x = saw("piece 3 1 20;");
        Check.due("the greatest STRAIN", x.bend(9999, -9999, 0, 1), 1249 * 20);
        Check.due("and of the tip", x.bend(9999, -9999, 2, 1), 1249 * 20);
        String piece = owns(-10, 4, 10);
        x = saw(piece + "bear 50;");
        Check.due("a STRAIN of 50 with bear 50", x.breaks(0, 0), -1);
        Check.due("a TONE with bear 50", x.tone(0, 0, 0, 0) > 0, true);
        x = saw(piece + "bear 49;");
        Check.due("a STRAIN of 50 with bear 49", x.breaks(0, 0), 0);
        Check.due("no TONE with bear 49", x.tone(0, 0, 0, 0), -1);
        Check.due("but a PLACE", x.place(0, 0, 0), 1);
        x.write(0, 0);
        Check.due("no VOICE with bear 49", x.voice(0, 0), 0);
        Check.due("no PIECE of it", x.voice(0, 1), 99);
        x = saw(owns(4, -9, 10) + "bear 44;");
        Check.due("the first PIECE above", x.breaks(0, 0), 1);
        x = saw(owns(4, 8, -10) + "bear 49;");
        Check.due("the last PIECE alone is above", x.breaks(0, 0), 2);
        x = saw("piece 3 30 5;bear 9999;");
        Check.due("bear 9999: 2000 times 5 is above", x.breaks(9999, 0), 0);
        Check.due("bear 9999: 1999 times 5 is not", x.breaks(7499, 0), -1);
    }

    private static void tone(String blade, int k, int m, int f, int... run) {
        SingingSaw x = saw(blade);
        String call = "tone(0, 0, " + k + ", " + m + ") of " + blade;
        Check.due(call, x.tone(0, 0, k, m), f);
        for (int what = 0; what < run.length; what++) {
            Check.due("run(" + what + ") of " + call, x.run(what), run[what]);
        }
    }

    /** Terms 2: "A tone f (1 to 2000) GOES in a PIECE, if f times f is above its WALL"; its PHASE is a root that is cut. */
    private static void goes() {
        // WALLS of 49: with 7 nothing goes, with 8 each PHASE is the root of 15, cut: 3.
        tone(owns(7, 7, 7) + "unit 1;", 0, 0, 8, 0, 2);
        tone(owns(7, 7, 7) + "unit 9;", 0, 0, 8, 0, 2);
        tone(owns(7, 7, 7) + "unit 10;", 0, 0, 9, 0, 2);
        tone(owns(-7, 7, -7) + "unit 9;", 0, 0, 8, 0, 2);
        // The RUN ends where f f is just the WALL, and goes on where it is above.
        tone(owns(5, 0, 5) + "unit 5;", 0, 0, 5, 1, 1, 1, 0, 0);
        tone(owns(5, 0, 5) + "unit 6;", 0, 0, 6, 0, 2, 0, 0, 0);
        tone(owns(6, 0, 5) + "unit 6;", 0, 0, 6, 1, 2, 0, 0, 0);
        tone(owns(0, 0, 0) + "unit 1;", 0, 0, 1, 0, 2);
        tone(owns(0, 0, 0) + "unit 3;", 0, 0, 1, 0, 2);
        tone(owns(0, 0, 0) + "unit 4;", 0, 0, 2, 0, 2);
        tone(owns(0, 0, 0) + "unit 6000;", 0, 0, 2000, 0, 2);
        tone(owns(0, 0, 0) + "unit 6001;", 0, 0, -1);
        tone(owns(0, 0, 0) + "unit 5997;", 0, 0, 1999, 0, 2);
        // "RUN of f: PIECES one behind the other .., as many as there are": a WALL between ends it.
        tone(owns(0, 9, 0, 0, 9, 0) + "unit 6;", 1, 0, 3, 2, 3, 1, 0, 8);
        tone(owns(0, 9, 0, 0, 9, 0) + "unit 10;", 1, 0, 5, 2, 3, 1, 0, 7);
        tone(owns(0, 9, 0, 0, 9, 0) + "unit 18;", 1, 0, 9, 2, 3, 1, 0, 0);
        tone(owns(0, 9, 0, 0, 9, 0) + "unit 19;", 1, 0, 10, 0, 5, 0, 1, 0);
    }

    private static void places(String blade, int... pieces) {
        SingingSaw x = saw(blade);
        Check.due("place(0, 0, -1) of " + blade, x.place(0, 0, -1), pieces.length);
        for (int k = 0; k < pieces.length; k++) {
            Check.due("place(0, 0, " + k + ") of " + blade, x.place(0, 0, k), pieces[k]);
        }
        Check.due("one more of " + blade, x.place(0, 0, pieces.length), -1);
        Check.due("place(0, 0, -2) of " + blade, x.place(0, 0, -2), -1);
    }

    /** Terms 2: "less than that of the one ahead (if there is one), and the first one behind it that is unlike (if there is one) is greater". */
    private static void places() {
        places(owns(1, 1, 1), 0);
        places(owns(1, 2, 3), 0);
        places(owns(3, 2, 1), 2);
        places(owns(1, 2, 1), 0, 2);
        places(owns(2, 1, 2), 1);
        places(owns(2, 1, 1), 1);
        places(owns(1, 1, 2), 0);
        places(owns(2, 1, 1, 0), 3);
        places(owns(2, 1, 1, 2, 2, 1, 1, 0, 0), 1, 7);
        places(owns(1, -1, 1), 0);
        places(owns(-2, 1, 2, -1, -2), 1, 3);
        // Unlike with a sign or in the curve is not unlike in the WALL.
        places(owns(3, 2, -2, 3, -3, 2), 1, 5);
    }

    /** Terms 2: "with m humps (0 to 5): the least f with which .. PHASES .. are (2 m + 1) 'unit' together, or more". */
    private static void humps() {
        String blade = "piece 3 9 9;unit 3;";
        int[] tones = {1, 3, 5, 7, 9, 11};
        for (int m = 0; m <= 5; m++) {
            tone(blade, 0, m, tones[m], 0, 2, 0, 0, 0);
        }
        tone(blade, 0, -1, -1);
        tone(blade, 0, 6, -1);
        // 11 'unit' with 2000 in 3 PIECES: 545 is the most, 2000 in one PIECE is not the last yet.
        tone("piece 3 9 9;unit 545;", 0, 5, 1999);
        tone("piece 3 9 9;unit 546;", 0, 5, -1);
        tone("piece 3 9 9;unit 546;", 0, 4, 1638);
    }

    /** Terms 2: "KEPT, if the RUN has neither the first nor the last PIECE; else LOST. TWICE: the RUN has another PLACE, too." */
    private static void keptOrLost() {
        tone(owns(9, 1, 9) + "unit 3;", 0, 0, 4, 1, 1, 1, 0, 8);
        tone(owns(3, 1, 9) + "unit 3;", 0, 0, 4, 0, 1, 0, 0, 0);
        tone(owns(9, 1, 3) + "unit 3;", 0, 0, 4, 1, 2, 0, 0, 0);
        tone(owns(1, 9, 9) + "unit 3;", 0, 0, 4, 0, 0, 0, 0, 0);
        tone(owns(9, 9, 1) + "unit 3;", 0, 0, 4, 2, 2, 0, 0, 0);
        tone(owns(9, 1, 4, 1, 9) + "unit 3;", 0, 0, 4, 1, 1, 1, 0, 8);
        tone(owns(9, 1, 4, 1, 9) + "unit 4;", 0, 0, 5, 1, 3, 1, 1, 7);
        tone(owns(9, 1, 4, 1, 9) + "unit 4;", 1, 0, 5, 1, 3, 1, 1, 7);
        tone(owns(9, 1, 1, 1, 9) + "unit 4;", 0, 0, 3, 1, 3, 1, 0, 8);
        tone(owns(4, 1, 4, 1, 9) + "unit 4;", 0, 0, 5, 0, 3, 0, 1, 0);
    }

    /** Terms 2: "RINGS: .. the lesser of both sides: .. the root (cut) of WALL less f f, where that is above 0, added. LOST: 0." */
    private static void ringing() {
        tone(owns(5, 4, 3, 5) + "unit 2;", 0, 0, 4, 2, 2, 1, 0, 3);
        tone(owns(8, 9, 3, 9) + "unit 2;", 1, 0, 4, 2, 2, 1, 0, 8);
        tone(owns(9, 3, 9, 8) + "unit 2;", 0, 0, 4, 1, 1, 1, 0, 8);
        tone(owns(9, 3, 5, 1, 9) + "unit 2;", 0, 0, 4, 1, 1, 1, 0, 8);
        tone(owns(4, 3, 9) + "unit 2;", 0, 0, 4, 1, 1, 1, 0, 0);
        // Less than f on the way does not take away from it: 4 and 2 add nothing to 3.
        tone(owns(9, 9, 3, 4, 2, 5) + "unit 2;", 0, 0, 4, 2, 2, 1, 0, 3);
    }

    private static void bows(String blade, int m, int... strengths) {
        SingingSaw x = saw(blade);
        Check.due("a TONE with " + m + " humps of " + blade, x.tone(0, 0, 0, m) > 0, true);
        for (int i = 0; i < strengths.length; i++) {
            Check.due("bow(" + i + ") with " + m + " humps of " + blade, x.bow(i), strengths[i]);
        }
        Check.due("bow(-1)", x.bow(-1), -1);
        Check.due("bow(" + strengths.length + ")", x.bow(strengths.length), -1);
    }

    /** Terms 2: "with r the rest of x by 2 'unit': STRENGTH is r, or 2 'unit' less r, if that is less. Elsewhere 0." */
    private static void bowing() {
        bows("piece 5 9 9;unit 5;", 0, 0, 1, 2, 3, 4);
        bows("piece 5 9 9;unit 5;", 1, 1, 4, 3, 0, 3);
        bows("piece 5 9 9;unit 5;", 2, 2, 3, 2, 3, 2);
        // r is just 'unit', and one more.
        bows("piece 5 9 9;unit 3;", 0, 0, 1, 2, 3, 2);
        // Outside the RUN 0, and x begins with the RUN.
        bows(owns(9, 9, 1, 1, 9) + "unit 6;", 0, 0, 0, 1, 4, 0);
    }

    // ==== 3.

    /** Terms 3: "A: [ - ] NUMBER (0 to 9999 ..)", "T: 1 to 99 TICKS", "J 0 to 999". */
    private static void numbersOfHands() {
        number(HAND, "wait %;", 1, 99);
        number(HAND, "to 5 6 in %;", 1, 99);
        number(HAND, "shake 7 in %;", 1, 99);
        number(HAND, "shake % in 2;", 0, 999);
        number(HAND, "at % 5;", 0, 9999);
        number(HAND, "at 5 %;", 0, 9999);
        number(HAND, "at -% 5;", 0, 9999);
        number(HAND, "to 5 -% in 1;", 0, 9999);
        for (String move : new String[] {"wait ", "to 5 6 in ", "shake 7 in "}) {
            Check.fine(HAND, saw(), move + "1;", 1);
            Check.fine(HAND, saw(), move + "99;", 99);
            Check.fault(HAND, saw(), move + "-1;", move.length(), 1);
        }
        Check.fault(HAND, saw(), "shake -1 in 2;", 6, 1);
        for (String a : new String[] {"0", "9999", "-0", "-9999", "- 9999"}) {
            int bend = Integer.parseInt(a.replace(" ", ""));
            for (String text : new String[] {"at % 5;wait 1;", "to % 5 in 1;"}) {
                SingingSaw x = saw();
                Check.fine(HAND, x, with(text, a), 1);
                Check.due("a in '" + with(text, a) + "'", x.tick(1, 0), bend);
                Check.due("b in '" + with(text, a) + "'", x.tick(1, 1), 5);
            }
            for (String text : new String[] {"at 5 %;wait 1;", "to 5 % in 1;"}) {
                SingingSaw x = saw();
                Check.fine(HAND, x, with(text, a), 1);
                Check.due("a in '" + with(text, a) + "'", x.tick(1, 0), 5);
                Check.due("b in '" + with(text, a) + "'", x.tick(1, 1), bend);
            }
        }
        Check.fault(HAND, saw(), "at 10000 5;", 3, 1);
        Check.fault(HAND, saw(), "at -10000 5;", 4, 1);
        Check.fault(HAND, saw(), "to 5 10000 in 1;", 5, 1);
        Check.fault(HAND, saw(), "to 5 -10000 in 1;", 6, 1);
        Check.fault(HAND, saw(), "at 5 - -5;", 7, 1);
    }

    /** Terms 3: "200 in all"; FAULT "4 a 'to', 'shake', 'wait' with which there would be more than 200 TICKS (at its T)". */
    private static void ticksInAll() {
        String most = "wait 99;wait 99;";
        for (String move : new String[] {"to 1 2 in ", "shake 3 in ", "wait "}) {
            SingingSaw x = saw();
            Check.fine(HAND, x, most + move + "2;", 200);
            Check.due("count(3)", x.count(3), 200);
            Check.due("tick(200, 0)", Check.tick(x, 200, 0) != Check.THROWN, true);
            Check.due("tick(201, 0)", Check.tick(x, 201, 0), Check.THROWN);
            Check.fault(HAND, x, most + move + "3;", 16 + move.length(), 4);
            Check.fault(HAND, x, most + move + "99;", 16 + move.length(), 4);
            Check.fault(HAND, x, most + "wait 2;" + move + "1;", 23 + move.length(), 4);
            Check.due("the HAND stays", x.count(3), 200);
        }
        Check.fine(HAND, saw(), most + "wait 2;at 1 2;at 3 4;", 200);
        Check.fine(HAND, saw(), most + "wait 1;", 199);
    }

    private static void ticks(String text, int... bends) {
        SingingSaw x = saw();
        Check.fine(HAND, x, text, bends.length / 2);
        for (int t = 1; t <= bends.length / 2; t++) {
            Check.due("a in TICK " + t + " of '" + text + "'", x.tick(t, 0), bends[2 * t - 2]);
            Check.due("b in TICK " + t + " of '" + text + "'", x.tick(t, 1), bends[2 * t - 1]);
        }
        Check.due("TICK 0 of '" + text + "'", Check.tick(x, 0, 0), Check.THROWN);
        Check.due("one behind '" + text + "'", Check.tick(x, bends.length / 2 + 1, 0), Check.THROWN);
    }

    /** Terms 3: "First the BEND is 0, 0. 'at': from the next TICK on .. (no TICK passes). 'to': .. cut towards 0, b likewise." */
    private static void bendOfTicks() {
        ticks("wait 1;", 0, 0);
        ticks("shake 5 in 1;", 0, 5);
        ticks("to 6 -7 in 2;", 3, -3, 6, -7);
        ticks("to -7 7 in 2;", -3, 3, -7, 7);
        ticks("at 10 -10;to -1 1 in 3;", 7, -7, 3, -3, -1, 1);
        ticks("at 9999 -9999;to -9999 9999 in 3;", 3333, -3333, -3333, 3333, -9999, 9999);
        ticks("to 1 2 in 1;wait 1;to 1 2 in 1;", 1, 2, 1, 2, 1, 2);
        ticks("at 1 2;at 3 4;wait 1;at 5 6;", 3, 4);
        SingingSaw x = saw();
        Check.fine(HAND, x, "at -9999 9999;to 9999 -9999 in 99;", 99);
        Check.due("a in the first of 99", x.tick(1, 0), -9999 + 202);
        Check.due("b in the first of 99", x.tick(1, 1), 9999 - 202);
        Check.due("a in the 98th of 99", x.tick(98, 0), -9999 + 19998 * 98 / 99);
        Check.due("a in the last of 99", x.tick(99, 0), 9999);
    }

    /** Terms 3: 'shake': "J more .., if j is 1, 5, 9, .., J less, if it is 3, 7, 11, .. (9999 either way at most) .. ; behind it, too." */
    private static void shaking() {
        ticks("at 3 10;shake 4 in 12;wait 1;", 3, 14, 3, 10, 3, 6, 3, 10, 3, 14, 3, 10, 3, 6, 3, 10, 3, 14, 3, 10, 3, 6, 3, 10, 3, 10);
        ticks("at 0 9000;shake 999 in 3;wait 1;", 0, 9999, 0, 9000, 0, 8001, 0, 9000);
        ticks("at 0 9001;shake 999 in 3;wait 1;", 0, 9999, 0, 9001, 0, 8002, 0, 9001);
        ticks("at 0 -9000;shake 999 in 3;wait 1;", 0, -8001, 0, -9000, 0, -9999, 0, -9000);
        ticks("at 0 -9001;shake 999 in 3;wait 1;", 0, -8002, 0, -9001, 0, -9999, 0, -9001);
        ticks("at 0 9999;shake 999 in 4;", 0, 9999, 0, 9999, 0, 9000, 0, 9999);
        ticks("at 0 10;shake 4 in 1;shake 4 in 1;wait 1;", 0, 14, 0, 14, 0, 10);
        ticks("at 0 10;shake 4 in 3;to 0 20 in 2;", 0, 14, 0, 10, 0, 6, 0, 15, 0, 20);
        ticks("at 0 10;shake 0 in 3;", 0, 10, 0, 10, 0, 10);
        SingingSaw x = saw();
        Check.fine(HAND, x, "shake 999 in 99;", 99);
        Check.due("b in the 97th", x.tick(97, 1), 999);
        Check.due("b in the 98th", x.tick(98, 1), 0);
        Check.due("b in the 99th", x.tick(99, 1), -999);
    }

    // ==== 4.

    /** Terms 4: "A BOOK of BENDS (40)". Promises 17, 18, 37. */
    private static void books() {
        SingingSaw x = saw("piece 5 10 10;unit 10;");
        Check.due("an empty BOOK", x.count(4), 0);
        Check.due("voice(0, 0) of an empty BOOK", x.voice(0, 0), -1);
        Check.due("voice(0, 1) of an empty BOOK", x.voice(0, 1), -1);
        for (int k = 0; k < 40; k++) {
            Check.due("write " + k, x.write(k == 39 ? 800 : 400, -400), k);
        }
        Check.due("a full BOOK", x.count(4), 40);
        Check.due("a 41st BEND", x.write(400, -400), -1);
        Check.due("a full BOOK still", x.count(4), 40);
        Check.due("voice(38, 0)", x.voice(38, 0), 10);
        Check.due("voice(39, 0)", x.voice(39, 0), 15);
        Check.due("voice(40, 0)", x.voice(40, 0), -1);
        Check.due("read() in a full BOOK", x.read(15, 0), 1);
        Check.due("readAt(0)", x.readAt(0), 39);
        Check.due("read() of all of a full BOOK", x.read(12, 200), 40);
        Check.due("readAt(39)", x.readAt(39), 39);
        Check.due("readAt(40)", x.readAt(40), -1);
        Check.due("range(3) of a full BOOK", x.range(3), 39);
        Check.due("even() in a full BOOK", x.even(39, 38, 1) >= 0, true);
        Check.due("even() beyond a full BOOK", x.even(39, 40, 1), -1);
    }

    /** Terms 4: "A SONG of notes (1 to 60, each 1 to 2000)". Promises 20, 21. */
    private static void songs() {
        SingingSaw x = saw("piece 5 10 10;unit 10;");
        Check.feedNotes(x, 10);
        Check.due("a SONG with an empty BOOK", x.song(0), -1);
        x.write(400, -400);
        x.write(800, -400);
        Check.due("no note", x.song(0), -2);
        Check.feedNotes(x, 10);
        Check.due("one note costs nothing", x.song(0), 0);
        Check.due("songAt(0)", x.songAt(0), 0);
        Check.due("songAt(1)", x.songAt(1), -1);
        int[] notes = new int[60];
        for (int i = 0; i < 60; i++) {
            notes[i] = i == 59 ? 15 : 10;
        }
        Check.feedNotes(x, notes);
        Check.due("60 notes", x.song(0), 400);
        Check.due("songAt(58)", x.songAt(58), 0);
        Check.due("songAt(59)", x.songAt(59), 1);
        Check.due("songAt(60)", x.songAt(60), -1);
        Check.feedNotes(x, java.util.Arrays.copyOf(new int[] {10, 10, 10}, 3));
        x.end(5);
        Check.due("two notes and a byte", x.song(0), -2);
        int[] more = new int[61];
        java.util.Arrays.fill(more, 10);
        Check.feedNotes(x, more);
        Check.due("61 notes", x.song(0), -2);
        Check.due("songAt(59) stays", x.songAt(59), 1);
        java.util.Arrays.fill(more, 10);
        Check.feedNotes(x, java.util.Arrays.copyOf(more, 60));
        Check.feed(x, "\0");
        Check.due("60 notes and a byte", x.song(0), -2);
        for (int note : new int[] {1, 2000}) {
            Check.feedNotes(x, note);
            Check.due("note " + note + " is one, but no BEND is near", x.song(0), -1);
            Check.feedNotes(x, 10, note);
            Check.due("note " + note + " behind another", x.song(0), -1);
        }
        for (int note : new int[] {0, 2001, 32768, 65535}) {
            Check.feedNotes(x, note);
            Check.due("note " + note + " is none", x.song(0), -2);
            Check.feedNotes(x, 10, note);
            Check.due("note " + note + " is none behind another", x.song(0), -2);
        }
        // A full tape has 270 pairs of bytes.
        int[] full = new int[270];
        java.util.Arrays.fill(full, 10);
        Check.feedNotes(x, full);
        Check.due("a full tape of notes", x.song(0), -2);
        Check.due("it is empty then", x.count(5), 0);
    }

    /** Terms 4: "whose VOICE differs by no more than SLIP" (promises 20, 22, 29: 0 to 200). */
    private static void slips() {
        SingingSaw x = saw("piece 5 10 10;unit 10;");
        x.keep(0);
        x.write(400, -400);
        for (int slip : new int[] {0, 3, 9, 200}) {
            for (int tone : new int[] {10 - slip, 10 + slip}) {
                int out = tone < 10 ? tone - 1 : tone + 1;
                if (tone >= 1) {
                    Check.due("read(" + tone + ", " + slip + ")", x.read(tone, slip), 1);
                    Check.feedNotes(x, tone);
                    Check.due("song(" + slip + ") of " + tone, x.song(slip), 0);
                    Check.feedTold(x, 0, tone);
                    Check.due("which(" + slip + ") of " + tone, x.which(slip), 1);
                }
                if (out >= 1) {
                    Check.due("read(" + out + ", " + slip + ")", x.read(out, slip), 0);
                    Check.feedNotes(x, out);
                    Check.due("song(" + slip + ") of " + out, x.song(slip), -1);
                    Check.feedTold(x, 0, out);
                    Check.due("which(" + slip + ") of " + out, x.which(slip), 0);
                }
            }
        }
        for (int slip : new int[] {-1, 201, Integer.MIN_VALUE, Integer.MAX_VALUE}) {
            Check.due("read(10, " + slip + ")", x.read(10, slip), -1);
            Check.feedNotes(x, 10);
            Check.due("song(" + slip + ")", x.song(slip), -2);
            Check.feedTold(x, 0, 10);
            Check.due("which(" + slip + ")", x.which(slip), -1);
        }
        Check.due("Promise 22: read(1, 200)", x.read(1, 200), 1);
        Check.due("Promise 22: read(2000, 200)", x.read(2000, 200), 0);
        Check.due("Promise 22: read(0, 200)", x.read(0, 200), -1);
        Check.due("Promise 22: read(2001, 200)", x.read(2001, 200), -1);
        // A BEND without a VOICE is near to no tone.
        x = saw("piece 5 10 10;unit 10;");
        x.keep(0);
        x.write(0, 0);
        Check.due("read(1, 200) without a VOICE", x.read(1, 200), 0);
        Check.feedNotes(x, 1);
        Check.due("song(200) without a VOICE", x.song(200), -1);
        Check.feedTold(x, 0, 1);
        Check.due("which(200) without a VOICE", x.which(200), 0);
        Check.due("even() without a VOICE", x.even(0, 0, 1), -1);
        lowestVoice();
        // The highest VOICE of all is 2000.
        x = saw(owns(0, 0, 0).replace("30 5", "1 1") + "unit 2000;");
        x.write(2, -2);
        Check.due("the highest VOICE", x.voice(0, 0), 2000);
        Check.due("read(2000, 0)", x.read(2000, 0), 1);
        Check.due("read(1800, 200)", x.read(1800, 200), 1);
        Check.due("read(1799, 200)", x.read(1799, 200), 0);
        x = saw(owns(0, 0, 0).replace("30 5", "1 1") + "unit 2001;");
        x.write(2, -2);
        Check.due("none above", x.voice(0, 0), 0);
    }

    /** A VOICE of 1 is one: wherever 0 would tell that there is none. */
    private static void lowestVoice() {
        SingingSaw x = saw(owns(9, 0, 9) + "unit 1;");
        x.keep(0);
        x.write(0, 0);
        x.write(15, 15);
        Check.due("the lowest VOICE", x.voice(0, 0), 1);
        Check.due("another VOICE", x.voice(1, 0), 5);
        Check.due("read(1, 0)", x.read(1, 0), 1);
        Check.due("read(1, 4)", x.read(1, 4), 2);
        Check.due("range(0)", x.range(0), 1);
        Check.due("range(2)", x.range(2), 0);
        Check.feedNotes(x, 1);
        Check.due("song(0) of 1", x.song(0), 0);
        Check.feedTold(x, 0, 1);
        Check.due("which(0) of 1", x.which(0), 1);
        Check.due("even(0, 1, 1)", x.even(0, 1, 1) > 0, true);
        Check.due("evenAt(0)", x.evenAt(0), 0);
        Check.due("even(1, 0, 1)", x.even(1, 0, 1) > 0, true);
        Check.due("evenAt(1)", x.evenAt(1) > 0, true);
        Check.due("even(0, 0, 1)", x.even(0, 0, 1), 0);
        Check.due("tremble(0, 0, 0)", x.tremble(0, 0, 0), 0);
        Check.due("form(5, 5)", x.form(5, 5), 505);
        Check.due("formBy()", x.formBy(), 4);
        Check.hand(x, "wait 1;");
        Check.due("tick(1, 2)", x.tick(1, 2), 1);
        Check.due("tick(1, 3)", x.tick(1, 3), 1);
        so(x, "sings", "1");
        so(x, "tone=1", "1");
        // And the only one.
        x = saw(owns(9, 0, 9) + "unit 1;");
        x.write(0, 0);
        for (int what = 0; what <= 3; what++) {
            Check.due("range(" + what + ") of a VOICE of 1", x.range(what), what < 2 ? 1 : 0);
        }
        Check.due("form(5, 5) with a VOICE of 1", x.form(5, 5), 505);
        Check.due("formBy() with a VOICE of 1", x.formBy(), 0);
    }

    /** Terms 4: "RANGE of a BLADE: the lowest and the highest VOICE of all BENDS of the BOOK." Promise 19. */
    private static void ranges() {
        SingingSaw x = saw("piece 5 10 10;unit 10;");
        for (int what = -1; what <= 4; what++) {
            Check.due("range(" + what + ") of an empty BOOK", x.range(what), -1);
        }
        x.write(0, 0);
        for (int what = -1; what <= 4; what++) {
            Check.due("range(" + what + ") without a VOICE", x.range(what), -1);
        }
        x.write(800, -400);
        int[][] told = {{15, 15, 1, 1}, {10, 15, 2, 1}, {10, 15, 2, 1}, {10, 15, 2, 1}};
        int[][] more = {{400, -400}, {400, -800}, {200, -200}, {0, 0}};
        for (int step = 0; step < 4; step++) {
            for (int what = 0; what < 4; what++) {
                Check.due("range(" + what + ") with " + x.count(4) + " BENDS", x.range(what), told[step][what]);
            }
            Check.due("range(-1)", x.range(-1), -1);
            Check.due("range(4)", x.range(4), -1);
            x.write(more[step][0], more[step][1]);
        }
    }

    /** Terms 4: "A SHELF of BLADES (4)"; promise 29: "as bits", "not as told (1 to 40)". */
    private static void whichBlades() {
        SingingSaw x = saw("piece 5 10 10;unit 10;");
        x.write(400, -400);
        Check.feedTold(x, 0, 10);
        Check.due("which() of an empty SHELF", x.which(0), 0);
        for (int k = 0; k < 4; k++) {
            Check.due("keep(" + k + ")", x.keep(k), true);
            Check.feedTold(x, 0, 10);
            Check.due("which() of " + (k + 1), x.which(0), (1 << k + 1) - 1);
        }
        Check.due("keep(-1)", x.keep(-1), false);
        Check.due("keep(4)", x.keep(4), false);
        Check.due("take(-1)", x.take(-1), false);
        Check.due("take(4)", x.take(4), false);
        int[] told = new int[82];
        for (int i = 1; i < 82; i += 2) {
            told[i] = 10;
        }
        Check.feedTold(x, java.util.Arrays.copyOf(told, 80));
        Check.due("told 40 times", x.which(0), 15);
        Check.feedTold(x, told);
        Check.due("told 41 times", x.which(0), -1);
        Check.due("told not at all", x.which(0), -1);
        Check.feed(x, "\0");
        Check.due("one byte", x.which(0), -1);
        Check.feed(x, "\0\0");
        Check.due("two bytes", x.which(0), -1);
        Check.feed(x, "\0\0\12\0");
        Check.due("four bytes", x.which(0), -1);
        for (int tone : new int[] {1, 2000}) {
            Check.feedTold(x, 0, tone);
            Check.due("tone " + tone, x.which(0), 0);
        }
        for (int tone : new int[] {0, 2001, 32778, 65535}) {
            Check.feedTold(x, 0, tone);
            Check.due("tone " + tone, x.which(0), -1);
        }
        for (int k : new int[] {1, 127, 128, 255}) {
            Check.feedTold(x, k, 10);
            Check.due("BEND " + k + " of one", x.which(0), -1);
        }
        highTones();
        for (int k = 1; k < 40; k++) {
            x.write(800, -400);
        }
        Check.feedTold(x, 39, 15);
        Check.due("BEND 39 of 40", x.which(0), 15);
        Check.feedTold(x, 40, 15);
        Check.due("BEND 40 of 40", x.which(0), -1);
        Check.feedTold(x, 39, 15, 0, 11);
        Check.due("the last one told is far off", x.which(0), 0);
    }

    /** Promises 20, 29: "the higher one first": VOICES of more than one byte. */
    private static void highTones() {
        SingingSaw x = saw(owns(0, 0, 0).replace("30 5", "1 1") + "unit 515;");
        x.write(2, -2);
        x.keep(2);
        Check.due("a VOICE of two bytes", x.voice(0, 0), 515);
        Check.feedTold(x, 0, 515);
        Check.due("which(0) of 515", x.which(0), 4);
        Check.feedTold(x, 0, 516);
        Check.due("which(0) of 516", x.which(0), 0);
        Check.feedTold(x, 0, 3 * 256 + 2);
        Check.due("which(0) of 770", x.which(0), 0);
        Check.feedNotes(x, 515);
        Check.due("song(0) of 515", x.song(0), 0);
        Check.feedNotes(x, 3 * 256 + 2);
        Check.due("song(0) of 770", x.song(0), -1);
        Check.due("read(515, 0)", x.read(515, 0), 1);
    }

    /** Terms 4: "FORMS", "BEST FORM of all s, e from low to high (1 to 20, high 5 above low at most)". Promises 30, 31, 32. */
    private static void forms() {
        SingingSaw x = saw("piece 5 10 10;unit 10;");
        Check.due("form() with an empty BOOK", x.form(10, 11), -2);
        Check.due("formBy() ahead of any", x.formBy(), -1);
        x.write(400, -400);
        int[][] taken = {{1, 1}, {1, 6}, {15, 20}, {20, 20}, {10, 15}};
        for (int[] t : taken) {
            Check.due("form(" + t[0] + ", " + t[1] + ")", x.form(t[0], t[1]) != -2, true);
        }
        int[][] wrong = {{0, 0}, {0, 1}, {1, 7}, {14, 20}, {16, 21}, {20, 21}, {21, 21}, {10, 16}, {10, 9}, {-5, -1}};
        for (int[] w : wrong) {
            Check.due("form(" + w[0] + ", " + w[1] + ")", x.form(w[0], w[1]), -2);
        }
        Check.due("form(10, 10)", x.form(10, 10), 1010);
        Check.due("formBy()", x.formBy(), 0);
        // One side alone out of 1 to 20.
        for (int t : new int[] {1, 20}) {
            Check.due("forge(" + t + ", 5)", x.forge(t, 5), true);
            Check.due("forge(5, " + t + ")", x.forge(5, t), true);
            Check.due("the tip", x.piece(4, 1), t);
        }
        for (int t : new int[] {0, 21, -1}) {
            Check.due("forge(" + t + ", 5)", x.forge(t, 5), false);
            Check.due("forge(5, " + t + ")", x.forge(5, t), false);
        }
        x = saw("piece 4 9 9;");
        Check.due("forge(1, 3)", x.forge(1, 3), true);
        thick(x, 1, 1, 2, 3);
        Check.due("forge(3, 1)", x.forge(3, 1), true);
        thick(x, 3, 3, 2, 1);
        Check.due("forge(20, 1)", x.forge(20, 1), true);
        thick(x, 20, 14, 8, 1);
        corner();
    }

    private static void thick(SingingSaw x, int... thick) {
        for (int i = 0; i < thick.length; i++) {
            Check.due("THICK of PIECE " + i, x.piece(i, 1), thick[i]);
        }
    }

    /** low and high themselves are tried, for s and for e: each corner is the best of some BLADE. */
    private static void corner() {
        for (int[] c : FORM_CORNERS) {
            SingingSaw x = saw("piece " + c[0] + " " + c[1] + " 5;unit " + c[2] + ";bear " + c[3] + ";");
            x.write(c[4], c[5]);
            x.write(c[6], c[7]);
            Check.due("form(" + c[8] + ", " + c[9] + ") of " + java.util.Arrays.toString(c), x.form(c[8], c[9]), c[10]);
            Check.due("formBy()", x.formBy(), c[11]);
            int thick = x.piece(0, 1);
            Check.due("the BLADE stays", thick, 5);
            Check.due("forge()", x.forge(c[10] / 100, c[10] % 100), true);
            Check.due("its RANGE", x.range(0) == -1 ? -1 : x.range(1) - x.range(0), c[11]);
        }
    }

    // PIECES, WIDTH, unit, bear; two BENDS; low, high; the BEST FORM and its RANGE.
    private static final int[][] FORM_CORNERS = {
        {8, 88, 58, 9999, 7280, -5926, 8496, -7277, 11, 15, 1111, 2},
        {12, 39, 45, 9999, 286, -240, 188, -548, 4, 8, 408, 10},
        {11, 48, 35, 9999, 2596, -2731, 894, -3967, 7, 10, 1007, 4},
        {7, 41, 98, 1888, 5538, -7575, 7342, -3638, 9, 10, 1010, 5},
        {6, 86, 70, 9999, 658, -365, 526, -472, 4, 7, 605, 3},
        {12, 70, 74, 9999, 44, -19, 40, -31, 1, 6, 101, 22},
        {16, 22, 89, 9999, 7, -47, 5, -60, 1, 6, 106, 48},
        {12, 36, 15, 9999, 17, -43, 54, -11, 1, 4, 401, 10},
        {18, 56, 68, 9999, 9140, -9997, 8868, -5868, 15, 20, 1520, 3},
        {5, 28, 63, 9999, 7366, -6879, 7443, -2967, 15, 20, 2015, 1},
        {13, 24, 18, 984, 9465, -9295, 7750, -3663, 15, 20, 2020, 1},
        {20, 41, 58, 1091, 7689, -7578, 2598, -9526, 13, 17, 1615, 2},
    };

    private static void even(String blade, int a, int b, int toA, int toB, int widest, int... parts) {
        SingingSaw x = saw(blade);
        x.write(a, b);
        x.write(toA, toB);
        Check.due("even(0, 1, " + (parts.length - 1) + ") of " + blade, x.even(0, 1, parts.length - 1), widest);
        for (int i = 0; i < parts.length; i++) {
            Check.due("evenAt(" + i + ") of " + blade, x.evenAt(i), parts[i]);
        }
        Check.due("evenAt(" + parts.length + ") of " + blade, x.evenAt(parts.length), -1);
        Check.due("evenAt(-1) of " + blade, x.evenAt(-1), -1);
    }

    /** Terms 4: EVEN "in 100 PARTS .. (j 0 to 100) n steps (1 to 20)", "(PARTS without a VOICE are none; ..)". Promises 24, 25. */
    private static void evens() {
        // To PART 100 itself; with more than half of the PARTS silent; back and forth.
        even("piece 14 51 5;unit 84;bear 1448;", 1066, -744, 538, -360, 23, 0, 9, 25, 43, 61, 84, 100);
        even("piece 15 33 5 own 4;unit 70;bear 9999;", 276, -1512, 2058, -2055, 31, 0, 18, 35, 58, 61, 92, 100);
        even("piece 6 36 5 own 1;unit 23;bear 1630;", -714, 711, 826, -177, 7, 0, 7, 11, 13, 20);
        even("piece 10 38 5;unit 57;bear 9999;", -1920, 1503, 699, -2094, 95, 0, 0, 95, 7, 98, 92);
        even("piece 13 27 5 own 4;unit 52;bear 9999;", 165, -980, 2396, -1914, 39, 0, 8, 47, 31, 69, 92);
        // One step beyond the other BEND there would be a nearer VOICE: PART 100 is the last one.
        even("piece 9 82 5 own 1;piece 2 40 5 own 5;unit 65;bear 2782;", -1753, -626, 1725, -656, 68, 0, 14, 27, 31, 99, 99);
        even("piece 14 30 5 own 7;piece 2 40 5 own 24;unit 55;bear 9999;", 1769, -1373, -188, -1053, 82, 0, 16, 16, 16, 98, 98, 98);
        SingingSaw x = saw("piece 5 10 10;unit 10;");
        x.write(400, -400);
        x.write(800, -400);
        for (int n : new int[] {1, 20}) {
            Check.due("even(0, 1, " + n + ")", x.even(0, 1, n) >= 0, true);
            Check.due("evenAt(0)", x.evenAt(0), 0);
            Check.due("evenAt(" + n + ")", x.evenAt(n) > 0, true);
            Check.due("evenAt(" + (n + 1) + ")", x.evenAt(n + 1), -1);
        }
        for (int n : new int[] {0, 21, -1}) {
            Check.due("even(0, 1, " + n + ")", x.even(0, 1, n), -1);
            Check.due("evenAt(20) stays", x.evenAt(20) > 0, true);
        }
        Check.due("even(0, 2, 1)", x.even(0, 2, 1), -1);
        Check.due("even(2, 0, 1)", x.even(2, 0, 1), -1);
        Check.due("even(-1, 0, 1)", x.even(-1, 0, 1), -1);
        Check.due("even(0, -1, 1)", x.even(0, -1, 1), -1);
        Check.due("even(1, 1, 2)", x.even(1, 1, 2), 0);
        Check.due("evenAt(2)", x.evenAt(2), 0);
    }

    /** Terms 4: TREMBLE "by J (0 to 999) .. b J less (9999 either way at most), b, b J more". Promise 26. */
    private static void trembles() {
        SingingSaw x = saw("piece 7 23 7;unit 36;bear 9999;");
        Check.due("b just 9999", x.tremble(-1623, 9204, 795), 17);
        Check.due("b would be 10000", x.tremble(-1623, 9204, 796), 17);
        Check.due("b would be 10203", x.tremble(-1623, 9204, 999), 17);
        Check.due("by 0", x.tremble(-1623, 9204, 0), 0);
        Check.due("by -1", x.tremble(-1623, 9204, -1), -1);
        Check.due("by 1000", x.tremble(-1623, 9204, 1000), -1);
        Check.due("by MIN", x.tremble(-1623, 9204, Integer.MIN_VALUE), -1);
        Check.due("by MAX", x.tremble(-1623, 9204, Integer.MAX_VALUE), -1);
        x = saw("piece 6 82 5;unit 34;bear 9999;");
        Check.due("b just -9999", x.tremble(9076, -9468, 531), 26);
        Check.due("b would be -10467", x.tremble(9076, -9468, 999), 19);
        // With 9998 as the edge it would be 2, with 10000 there would be none.
        int[] own = {-16, 14, -19, -6, 9, -2, 0};
        int[] width = {59, 59, 40, 42, 59, 48, 40};
        for (int side : new int[] {1, -1}) {
            StringBuilder text = new StringBuilder("unit 243;bear 9999;");
            for (int i = 0; i < 7; i++) {
                text.append("piece 1 ").append(width[i]).append(" 5 own ").append(side * own[i]).append(';');
            }
            Check.due("to the very edge", saw(text.toString()).tremble(side * 438, side * -9990, 20), 3);
        }
        // Without the edge there would be none.
        Check.due("b would be -10548", saw("piece 11 41 5;unit 98;bear 9999;").tremble(4136, -9549, 999), 19);
    }

    // ==== 5.

    /** Terms 5: "20 ONES, 8 within one another. FAULTS: 1; 4 a 21st ONE, a ninth within (at its first TOKEN)." */
    private static void sentences() {
        SingingSaw x = saw();
        Check.fine(SENTENCE, x, "tick<3", 1);
        Check.fine(SENTENCE, x, "sings" + " and sings".repeat(19), 20);
        Check.fault(SENTENCE, x, "sings" + " or sings".repeat(20), 5 + 19 * 9 + 4, 4);
        Check.fine(SENTENCE, x, "not sings or ".repeat(9) + "not sings", 20);
        Check.fault(SENTENCE, x, "not sings or ".repeat(9) + "not not sings", 9 * 13 + 8, 4);
        Check.fault(SENTENCE, x, "not sings or ".repeat(9) + "not(sings)", 9 * 13 + 4, 4);
        Check.fault(SENTENCE, x, "not sings or ".repeat(9) + "not tick<3 and", 9 * 13 + 14, 1);
        x = saw();
        Check.fine(SENTENCE, x, "(sings)or".repeat(9) + "(sings)", 20);
        Check.fault(SENTENCE, x, "(sings)or".repeat(10) + "(sings)", 90, 4);
        Check.fault(SENTENCE, x, "(sings)or".repeat(9) + "((sings))", 83, 4);
        Check.fine(SENTENCE, x, "not(".repeat(3) + "not sings" + ")".repeat(3), 8);
        Check.fault(SENTENCE, x, "not(".repeat(4) + "sings" + ")".repeat(4), 16, 4);
        Check.fault(SENTENCE, x, "not(".repeat(4) + "(sings)" + ")".repeat(4), 16, 4);
        Check.fault(SENTENCE, x, "not(".repeat(4) + "not sings" + ")".repeat(4), 16, 4);
        Check.fine(SENTENCE, x, "sings or (sings or (sings or (sings or (sings or (sings or (sings or (sings)))))))", 15);
        Check.fault(SENTENCE, x, "sings or ((((((((sings))))))))", 17, 4);
        Check.fault(SENTENCE, x, "(((((((sings)))))))or((((((((sings", 29, 4);
    }

    private static String so(SingingSaw x, String text) {
        Check.due("reading '" + text + "'", Check.sentence(x, text) > 0, true);
        StringBuilder so = new StringBuilder();
        for (int k = 0; k < x.said(-1); k++) {
            so.append(x.said(k));
        }
        return so.toString();
    }

    private static void so(SingingSaw x, String text, String due) {
        String got = so(x, text);
        Check.due("'" + text + "' is so in '" + got + "', due is '" + due + "'", got.equals(due), true);
    }

    /** Terms 5: each SIGN at its edge; "(0 without)", "(99 without)". Promise 34. */
    private static void asked() {
        SingingSaw x = saw(owns(9, 1, 4, 1, 9) + "unit 4;bear 50;");
        Check.hand(x, "wait 2;at 4 4;wait 1;at 8 8;wait 1;at 0 -34;wait 1;at -20 -20;wait 1;");
        int[][] told = {{5, 1, 7}, {5, 1, 7}, {5, 1, 8}, {0, 99, 0}, {3, 2, 4}, {0, 99, 0}};
        for (int t = 1; t <= 6; t++) {
            for (int what = 0; what < 3; what++) {
                Check.due("Promise 16: tick(" + t + ", " + (what + 2) + ")", x.tick(t, what + 2), told[t - 1][what]);
            }
        }
        so(x, "tick<2", "1");
        so(x, "tick=2", "2");
        so(x, "tick>2", "3456");
        so(x, "tick<1", "");
        so(x, "tick>6", "");
        so(x, "tick<7", "123456");
        so(x, "tick>0", "123456");
        so(x, "tick<9999", "123456");
        // All of 20 ONES count, the last one, too.
        so(x, "tick=1 or ".repeat(19) + "tick=5", "15");
        so(x, "tick>3 and ".repeat(17) + "tick>4", "56");
        so(x, "tone<5", "456");
        so(x, "tone=5", "123");
        so(x, "tone>5", "");
        so(x, "tone>4", "123");
        so(x, "tone=0", "46");
        so(x, "tone<1", "46");
        so(x, "tone>0", "1235");
        so(x, "place=99", "46");
        so(x, "place>98", "46");
        so(x, "place<2", "123");
        so(x, "place=2", "5");
        so(x, "rings<7", "456");
        so(x, "rings=7", "12");
        so(x, "rings>7", "3");
        so(x, "rings=0", "46");
        so(x, "strain<45", "6");
        so(x, "strain=45", "125");
        so(x, "strain>45", "34");
        so(x, "strain=50", "3");
        so(x, "strain>50", "4");
        so(x, "places<2", "6");
        so(x, "places=2", "12345");
        so(x, "places>2", "");
        so(x, "places>0", "123456");
        so(x, "sings", "1235");
        so(x, "broken", "4");
        so(x, "twice", "12");
        so(x, "not sings and not broken", "6");
        so(x, "not twice and sings", "35");
    }
}
