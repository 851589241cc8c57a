/** Promises 15 (hand), 16 (tick). */
public final class HandTest {
    private static final Check.Reader HAND = Check::hand;

    public static void main(String[] args) {
        faults();
        tooManyTicks();
        tooLong();
        moving();
        shaking();
        voices();
        Check.finish("HandTest");
    }

    /** Promises 5, 15, Terms 3: an empty text, FAULTS 1 and 2. */
    private static void faults() {
        SingingSaw x = new SingingSaw();
        Check.fine(HAND, x, "", 0);
        Check.fine(HAND, x, " \n ", 0);
        Check.fine(HAND, x, "at 0 0;", 0);
        Check.fine(HAND, x, "at-9999 - 9999;", 0);
        Check.fine(HAND, x, "wait 1;wait 99;", 100);
        Check.fault(HAND, x, ";", 0, 1);
        Check.fault(HAND, x, "wait", 4, 1);
        Check.fault(HAND, x, "wait 5", 6, 1);
        Check.fault(HAND, x, "wait 5 ", 7, 1);
        Check.fault(HAND, x, "wait 5;;", 7, 1);
        Check.fault(HAND, x, "wait in 5;", 5, 1);
        Check.fault(HAND, x, "wait 0;", 5, 2);
        Check.fault(HAND, x, "wait 100;", 5, 2);
        Check.fault(HAND, x, "wait -5;", 5, 1);
        Check.fault(HAND, x, "wait 00005;", 5, 1);
        Check.fault(HAND, x, "at 5;", 4, 1);
        Check.fault(HAND, x, "at 5 5 5;", 7, 1);
        Check.fault(HAND, x, "at 5 --5;", 6, 1);
        Check.fault(HAND, x, "at 10000 5;", 3, 1);
        Check.fault(HAND, x, "to 5 5 5;", 7, 1);
        Check.fault(HAND, x, "to 5 5 in;", 9, 1);
        Check.fault(HAND, x, "to 5 5 in 0;", 10, 2);
        Check.fault(HAND, x, "to 5 5 in 100;", 10, 2);
        Check.fault(HAND, x, "to 5 - in 5;", 7, 1);
        Check.fault(HAND, x, "shake 1000 in 5;", 6, 2);
        Check.fault(HAND, x, "shake 999 in 0;", 13, 2);
        Check.fault(HAND, x, "shake -9 in 5;", 6, 1);
        Check.fault(HAND, x, "shake 9 to 5;", 8, 1);
        Check.fault(HAND, x, "shakes 9 in 5;", 0, 1);
        Check.fault(HAND, x, "piece 3 3 3;", 0, 1);
        Check.fault(HAND, x, "wait 5;\twait 5;", 7, 1);
        Check.fine(HAND, x, "shake 0 in 1;shake 999 in 99;", 100);
        Check.fault(HAND, x, "wait 5;wait 0;", 12, 2);
        Check.due("the HAND stays with a FAULT", x.count(3), 100);
    }

    /** Promises 5, 15, Terms 3: 200 TICKS and 201. */
    private static void tooManyTicks() {
        SingingSaw x = new SingingSaw();
        Check.fine(HAND, x, "wait 99;wait 99;wait 2;", 200);
        Check.fault(HAND, x, "wait 99;wait 99;wait 3;", 21, 4);
        Check.fault(HAND, x, "wait 99;wait 99;wait 100;", 21, 2);
        Check.fault(HAND, x, "wait 99;wait 99;wait 2;to 1 1 in 1;", 33, 4);
        Check.fault(HAND, x, "wait 99;wait 99;wait 2;shake 1 in 1", 34, 4);
        Check.fault(HAND, x, "wait 99;wait 99;wait 2;shake 1 in 0", 34, 2);
        Check.fine(HAND, x, "wait 99;wait 99;wait 2;at 1 1;", 200);
        Check.due("tick(200, 0)", Check.tick(x, 200, 0), 0);
        Check.due("tick(201, 0)", Check.tick(x, 201, 0), Check.THROWN);
    }

    /** Promises 5, 15, Terms 3: 300 bytes and 301. */
    private static void tooLong() {
        SingingSaw x = new SingingSaw();
        Check.fine(HAND, x, "wait 5;" + " ".repeat(293), 5);
        Check.fault(HAND, x, "wait 5;" + " ".repeat(294), 300, 1);
        Check.fault(HAND, x, " ".repeat(299) + "wait 5;", 300, 1);
        Check.fault(HAND, x, " ".repeat(298) + "wai5t 5;", 298, 1);
        Check.fault(HAND, x, "wait" + " ".repeat(295) + "100;", 299, 2);
        Check.fault(HAND, x, "wait" + " ".repeat(296) + "100;", 300, 1);
        Check.fault(HAND, x, " ".repeat(540), 300, 1);
        // A HAND of 300 bytes of the shortest moves.
        Check.fine(HAND, x, "wait 1;".repeat(42) + "      ", 42);
    }

    private static void ticks(SingingSaw x, String text, int... bends) {
        Check.fine(HAND, x, text, bends.length / 2);
        for (int t = 1; t <= bends.length / 2; t++) {
            Check.due("a in tick " + t + " of " + text, Check.tick(x, t, 0), bends[2 * t - 2]);
            Check.due("b in tick " + t + " of " + text, Check.tick(x, t, 1), bends[2 * t - 1]);
        }
        Check.due("tick(0, 0)", Check.tick(x, 0, 0), Check.THROWN);
        Check.due("one behind", Check.tick(x, bends.length / 2 + 1, 0), Check.THROWN);
    }

    /** Promise 16, Terms 3: at, to, wait; t and what outside on each side. */
    private static void moving() {
        SingingSaw x = new SingingSaw();
        ticks(x, "wait 2;", 0, 0, 0, 0);
        ticks(x, "at 5 -6;wait 1;at 7 8;at -9 10;wait 1;", 5, -6, -9, 10);
        ticks(x, "to 10 -10 in 4;wait 1;", 2, -2, 5, -5, 7, -7, 10, -10, 10, -10);
        ticks(x, "at 10 -10;to -1 0 in 3;", 7, -7, 3, -4, -1, 0);
        ticks(x, "at 9999 -9999;to -9999 9999 in 2;", 0, 0, -9999, 9999);
        ticks(x, "to 3 3 in 1;to 3 3 in 2;", 3, 3, 3, 3, 3, 3);
        Check.due("tick(1, -1)", Check.tick(x, 1, -1), Check.THROWN);
        Check.due("tick(1, 5)", Check.tick(x, 1, 5), Check.THROWN);
        Check.due("tick(MIN, 0)", Check.tick(x, Integer.MIN_VALUE, 0), Check.THROWN);
        Check.due("tick(MAX, 0)", Check.tick(x, Integer.MAX_VALUE, 0), Check.THROWN);
    }

    /** Promise 16, Terms 3: shake, 9999 either way at most. */
    private static void shaking() {
        SingingSaw x = new SingingSaw();
        ticks(x, "at 1 100;shake 7 in 9;wait 1;", 1, 107, 1, 100, 1, 93, 1, 100, 1, 107, 1, 100, 1, 93, 1, 100, 1, 107, 1, 100);
        ticks(x, "at 0 9990;shake 60 in 3;wait 1;", 0, 9999, 0, 9990, 0, 9930, 0, 9990);
        ticks(x, "at 0 -9990;shake 60 in 3;shake 1 in 1;", 0, -9930, 0, -9990, 0, -9999, 0, -9989);
        // A shake that ends in a swing goes on from the beginning's b.
        ticks(x, "at 0 50;shake 20 in 1;to 10 40 in 2;", 0, 70, 5, 45, 10, 40);
    }

    /** Promise 16: VOICE, PIECE and how long it RINGS; 0, 99 and 0 without one. */
    private static void voices() {
        SingingSaw x = new SingingSaw();
        Check.blade(x, "piece 5 10 10;unit 10;");
        Check.hand(x, "at 400 -400;wait 1;at 800 -400;wait 1;at 400 400;wait 1;");
        int[][] told = {{400, -400, 10, 2, 55}, {800, -400, 15, 3, 37}, {400, 400, 0, 99, 0}};
        for (int t = 1; t <= 3; t++) {
            for (int what = 0; what < 5; what++) {
                Check.due("tick(" + t + ", " + what + ")", Check.tick(x, t, what), told[t - 1][what]);
            }
        }
        // With another BLADE the same TICKS sing differently.
        Check.blade(x, "piece 5 10 10;unit 20;");
        Check.due("tick(1, 2) with unit 20", Check.tick(x, 1, 2), 20);
        Check.blade(x, "piece 5 10 10;unit 20;bear 399;");
        Check.due("tick(1, 2) of a broken one", Check.tick(x, 1, 2), 0);
        Check.due("tick(1, 3) of a broken one", Check.tick(x, 1, 3), 99);
        Check.due("tick(1, 4) of a broken one", Check.tick(x, 1, 4), 0);
    }
}
