/** Promises 7 (bend), 8 (breaks), 9 (place). */
public final class BendTest {
    public static void main(String[] args) {
        curves();
        wrongOnes();
        breaking();
        places();
        Check.finish("BendTest");
    }

    private static void curves(SingingSaw x, int a, int b, int... curves) {
        for (int i = 0; i < curves.length; i++) {
            String call = "bend(" + a + ", " + b + ", " + i + ", ";
            Check.due(call + "0)", Check.bend(x, a, b, i, 0), curves[i]);
            Check.due(call + "1)", Check.bend(x, a, b, i, 1), Math.abs(curves[i]) * x.piece(i, 1));
        }
    }

    /** Promise 7, Terms 2: both cuts, own, 2000 either way. */
    private static void curves() {
        SingingSaw x = new SingingSaw();
        curves(x, 3750, 0, 1000, 500, 0);
        curves(x, -3750, 3750, -1000, 0, 1000);
        curves(x, 7500, 7501, 2000, 2000, 2000);
        curves(x, 9999, -9999, 2000, 0, -2000);
        curves(x, 0, 0, 0, 0, 0);
        // Both steps are cut towards 0: 1 and -1 by 2 are 0; 3 times 1000 by 3750 is 0, -4 times is -1.
        curves(x, 1, 0, 0, 0, 0);
        curves(x, -1, 0, 0, 0, 0);
        curves(x, 3, -4, 0, 0, -1);
        curves(x, -7, -8, -1, -1, -2);
        Check.blade(x, "piece 1 1 1 own 99;piece 1 1 1 own -99;piece 1 1 2 own 7;piece 1 99 20 own -5;");
        curves(x, 1, 1, 1099, 901, 132, -5);
        curves(x, 2, 2, 2000, 1901, 257, -5);
        curves(x, -2, -2, -1901, -2000, -243, -5);
        curves(x, 9999, 9999, 2000, 2000, 2000, 7);
        curves(x, 0, 9, 99, 2000, 757, -5);
        Check.blade(x, "piece 3 9 2 teeth 4;");
        curves(x, 10, -10, 250, 0, -250);
        Check.blade(x, "piece 60 99 20;");
        Check.due("60 pieces: 0", x.bend(9999, -9999, 0, 0), 12);
        Check.due("60 pieces: 59", x.bend(9999, -9999, 59, 0), -12);
        Check.due("60 pieces: 59", x.bend(9999, -9999, 59, 1), 240);
    }

    /** Promises 7, 8, 9, 10, 13, 17, 26: a or b of 10000 or -10000; no such PIECE, another what. */
    private static void wrongOnes() {
        SingingSaw x = new SingingSaw();
        int[][] wrong = {{10000, 0, 0, 0}, {-10000, 0, 0, 0}, {0, 10000, 0, 0}, {0, -10000, 0, 1}, {0, 0, 3, 0}, {0, 0, -1, 0},
            {0, 0, 0, 2}, {0, 0, 0, -1}, {Integer.MIN_VALUE, 0, 0, 0}, {0, Integer.MAX_VALUE, 0, 0}, {0, 0, Integer.MIN_VALUE, 0}};
        for (int[] w : wrong) {
            Check.due("bend(" + w[0] + ", " + w[1] + ", " + w[2] + ", " + w[3] + ")", Check.bend(x, w[0], w[1], w[2], w[3]), Check.THROWN);
            if (w[2] == 0 && w[3] < 2 && w[3] >= 0) {
                Check.due("breaks(" + w[0] + ", " + w[1] + ")", x.breaks(w[0], w[1]), -2);
                Check.due("place(" + w[0] + ", " + w[1] + ", -1)", x.place(w[0], w[1], -1), -1);
                Check.due("place(" + w[0] + ", " + w[1] + ", 0)", x.place(w[0], w[1], 0), -1);
                Check.due("tone(" + w[0] + ", " + w[1] + ", 0, 0)", x.tone(w[0], w[1], 0, 0), -1);
                Check.due("where(" + w[0] + ", " + w[1] + ", 0, 0, 1)", x.where(w[0], w[1], 0, 0, 1), -1);
                Check.due("write(" + w[0] + ", " + w[1] + ")", x.write(w[0], w[1]), -1);
                Check.due("tremble(" + w[0] + ", " + w[1] + ", 0)", x.tremble(w[0], w[1], 0), -1);
            }
        }
        Check.due("bend(9999, -9999, 2, 1)", Check.bend(x, 9999, -9999, 2, 1), 10000);
    }

    /** Promise 8, Terms 2: a STRAIN that is just 'bear', and one above. */
    private static void breaking() {
        SingingSaw x = new SingingSaw();
        // STRAIN is CURVE times 5: 400 is just borne with 2000, 401 is not.
        Check.due("breaks(0, 0)", x.breaks(0, 0), -1);
        Check.due("breaks(1500, 1500)", x.breaks(1500, 1500), -1);
        Check.due("breaks(1504, 0)", x.breaks(1504, 0), 0);
        Check.due("breaks(-1504, 0)", x.breaks(-1504, 0), 0);
        Check.due("breaks(0, 1504)", x.breaks(0, 1504), 2);
        Check.due("breaks(1503, 1509)", x.breaks(1503, 1509), 1);
        Check.blade(x, "piece 3 30 5;bear 1;");
        Check.due("bear 1: breaks(0, 0)", x.breaks(0, 0), -1);
        Check.due("bear 1: breaks(0, 8)", x.breaks(0, 8), 1);
        Check.blade(x, "piece 3 1 1;bear 1999;");
        Check.due("bear 1999: breaks(2, 0)", x.breaks(2, 0), 0);
        Check.blade(x, "piece 3 1 1;bear 2000;");
        Check.due("bear 2000: breaks(9999, 9999)", x.breaks(9999, 9999), -1);
        Check.blade(x, "piece 3 1 1 own 5;bear 4;");
        Check.due("own alone breaks", x.breaks(0, 0), 0);
    }

    private static void places(SingingSaw x, int a, int b, int... places) {
        Check.due("place(" + a + ", " + b + ", -1)", x.place(a, b, -1), places.length);
        for (int k = 0; k < places.length; k++) {
            Check.due("place(" + a + ", " + b + ", " + k + ")", x.place(a, b, k), places[k]);
        }
        Check.due("place(" + a + ", " + b + ", " + places.length + ")", x.place(a, b, places.length), -1);
        Check.due("place(" + a + ", " + b + ", -2)", x.place(a, b, -2), -1);
        Check.due("place(" + a + ", " + b + ", MIN)", x.place(a, b, Integer.MIN_VALUE), -1);
        Check.due("place(" + a + ", " + b + ", MAX)", x.place(a, b, Integer.MAX_VALUE), -1);
    }

    /** Promise 9, Terms 2: at the first and the last PIECE, along like WALLS; k NONE, the last one, one more. */
    private static void places() {
        SingingSaw x = new SingingSaw();
        places(x, 0, 0, 0);
        places(x, 3750, 0, 2);
        places(x, 0, 3750, 0);
        places(x, 3750, -3750, 1);
        Check.blade(x, own(5, 3, 3, 5, 1));
        places(x, 0, 0, 1, 4);
        Check.blade(x, own(5, 3, 3, 2, 3, 3));
        places(x, 0, 0, 3);
        // WALLS have no sign, a plateau is one PLACE at its first PIECE, and it is none half way down.
        Check.blade(x, own(3, -3, 4, -2, 2, -2, 9, 9, 0));
        places(x, 0, 0, 0, 3, 8);
        Check.blade(x, own(5, 4, 4, 3));
        places(x, 0, 0, 3);
        Check.blade(x, own(3, 4, 4, 5));
        places(x, 0, 0, 0);
        Check.blade(x, own(4, 4, 3, 3));
        places(x, 0, 0, 2);
        Check.blade(x, own(1, 2, 1, 2, 1, 2, 1));
        places(x, 0, 0, 0, 2, 4, 6);
        Check.blade(x, "piece 60 9 9;");
        places(x, 0, 0, 0);
        // A BROKEN blade has PLACES all the same.
        Check.blade(x, own(9, 1, 9) + "bear 2;");
        Check.due("broken", x.breaks(0, 0), 0);
        places(x, 0, 0, 1);
        StringBuilder most = new StringBuilder();
        for (int i = 0; i < 27; i++) {
            most.append("piece 1 1 1 own ").append(i % 2).append(';');
        }
        Check.due("27 alternating pieces", Check.blade(x, most.toString()), 27);
        Check.due("their places", x.place(0, 0, -1), 14);
        Check.due("the last place of them", x.place(0, 0, 13), 26);
    }

    static String own(int... owns) {
        StringBuilder text = new StringBuilder();
        for (int own : owns) {
            text.append("piece 1 30 5 own ").append(own < 0 ? "-" : "").append(Math.abs(own)).append(';');
        }
        return text.toString();
    }
}
