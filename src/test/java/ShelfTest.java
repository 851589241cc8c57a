/** Promises 27 (keep), 28 (take), 29 (which), 30 (form), 31 (formBy), 32 (forge). */
public final class ShelfTest {
    public static void main(String[] args) {
        shelf();
        whichBlades();
        wrongWhich();
        forging();
        forms();
        formsThatTie();
        formAfterForm();
        Check.finish("ShelfTest");
    }

    /** Promises 27, 28, 32: places 0 to 3, and one outside on each side; an empty place. */
    private static void shelf() {
        SingingSaw x = new SingingSaw();
        for (int k = 0; k < 4; k++) {
            Check.due("take(" + k + ") of nothing", x.take(k), false);
        }
        for (int k : new int[] {-1, 4, Integer.MAX_VALUE, Integer.MIN_VALUE}) {
            Check.due("keep(" + k + ")", x.keep(k), false);
            Check.due("take(" + k + ")", x.take(k), false);
        }
        Check.due("keep(0)", x.keep(0), true);
        Check.blade(x, "piece 4 8 7 teeth 2 own -3;unit 5;bear 6;");
        Check.due("keep(3)", x.keep(3), true);
        Check.blade(x, "piece 5 9 9;");
        Check.due("take(3)", x.take(3), true);
        Check.due("its pieces", x.count(0), 4);
        Check.due("its unit", x.count(1), 5);
        Check.due("its bear", x.count(2), 6);
        int[] told = {8, 7, 2, -3, 6 * 343};
        for (int what = 0; what < 5; what++) {
            Check.due("its piece(3, " + what + ")", x.piece(3, what), told[what]);
        }
        // What is made of the BLADE taken leaves the SHELF as it is.
        x.forge(1, 1);
        Check.due("forged", x.piece(0, 1), 1);
        Check.due("take(3) again", x.take(3), true);
        Check.due("unforged", x.piece(0, 1), 7);
        Check.due("take(0)", x.take(0), true);
        Check.due("the first one", x.count(0), 3);
        Check.due("keep(3) anew", x.keep(3), true);
        Check.due("take(3) anew", x.take(3), true);
        Check.due("its pieces", x.count(0), 3);
        Check.due("take(1)", x.take(1), false);
    }

    private static int which(SingingSaw x, int slip, int... told) {
        Check.feedTold(x, told);
        int answer = x.which(slip);
        Check.due("the tape behind which()", x.count(5), 0);
        return answer;
    }

    private static SingingSaw withShelf() {
        SingingSaw x = new SingingSaw();
        x.write(400, -400);
        x.write(800, -400);
        x.write(400, 400);
        Check.blade(x, "piece 5 10 10;unit 10;");
        x.keep(0);
        Check.blade(x, "piece 5 10 10;unit 20;");
        x.keep(1);
        Check.blade(x, "piece 5 10 10;unit 10;bear 799;");
        x.keep(3);
        return x;
    }

    /** Promise 29: bits, SLIP, told once and 40 times, an empty SHELF. */
    private static void whichBlades() {
        SingingSaw x = withShelf();
        // VOICES: 10 and 15 on the first blade, 20 and more on the second, the third bears the first BEND alone.
        Check.due("BEND 0 is 10", which(x, 0, 0, 10), 1 + 8);
        Check.due("BEND 0 is 20", which(x, 0, 0, 20), 2);
        Check.due("BEND 0 is 15 or so", which(x, 5, 0, 15), 1 + 2 + 8);
        Check.due("BEND 0 is 15, nearly", which(x, 4, 0, 15), 0);
        Check.due("BENDS 0, 1 are 10, 15", which(x, 0, 0, 10, 1, 15), 1);
        Check.due("BENDS 1, 0 are 15, 10", which(x, 0, 1, 15, 0, 10), 1);
        Check.due("BENDS 0, 0 are 10, 20", which(x, 0, 0, 10, 0, 20), 0);
        Check.due("BEND 2 has no VOICE", which(x, 200, 2, 1), 0);
        Check.due("BEND 0 is 2000", which(x, 200, 0, 2000), 0);
        int[] told = new int[80];
        for (int i = 0; i < 80; i += 2) {
            told[i + 1] = 10;
        }
        Check.due("told 40 times", which(x, 0, told), 1 + 8);
        Check.due("the BLADE stays", x.count(2), 799);
        SingingSaw empty = new SingingSaw();
        empty.write(0, 0);
        Check.due("an empty SHELF", which(empty, 200, 0, 10), 0);
    }

    /** Promise 29: nothing told, 41 told, BENDS and tones outside; the tape is empty. */
    private static void wrongWhich() {
        SingingSaw x = withShelf();
        Check.due("nothing told", which(x, 0), -1);
        Check.due("no such BEND", which(x, 0, 3, 10), -1);
        Check.due("BEND 255", which(x, 0, 255, 10), -1);
        Check.due("tone 0", which(x, 0, 0, 0), -1);
        Check.due("tone 2001", which(x, 0, 0, 2001), -1);
        Check.due("tone 65535", which(x, 0, 0, 65535), -1);
        Check.due("the second one wrong", which(x, 0, 0, 10, 3, 10), -1);
        Check.due("slip -1", which(x, -1, 0, 10), -1);
        Check.due("slip 201", which(x, 201, 0, 10), -1);
        Check.due("told 41 times", which(x, 0, new int[82]), -1);
        int[] told = new int[82];
        java.util.Arrays.fill(told, 1);
        Check.due("told 41 times, all of them fine", which(x, 0, told), -1);
        Check.feedTold(x, 0, 10);
        x.end(2);
        Check.due("two bytes", x.which(0), -1);
        Check.feedTold(x, 0, 10, 0, 10);
        x.end(4);
        Check.due("four bytes", x.which(0), -1);
    }

    /** Promise 32: s and e at their ends, and one outside on each side. */
    private static void forging() {
        SingingSaw x = new SingingSaw();
        Check.blade(x, "piece 3 9 9;piece 2 20 4 teeth 3 own -2;unit 7;bear 8;");
        Check.due("forge(2, 13)", x.forge(2, 13), true);
        int[] thick = {2, 4, 7, 10, 13};
        for (int i = 0; i < 5; i++) {
            Check.due("thick " + i, x.piece(i, 1), thick[i]);
        }
        Check.due("width stays", x.piece(4, 0), 20);
        Check.due("teeth stay", x.piece(4, 2), 3);
        Check.due("own stays", x.piece(4, 3), -2);
        Check.due("stiffness", x.piece(4, 4), 17 * 2197);
        Check.due("unit stays", x.count(1), 7);
        Check.due("bear stays", x.count(2), 8);
        Check.due("forge(13, 2)", x.forge(13, 2), true);
        int[] thin = {13, 11, 8, 5, 2};
        for (int i = 0; i < 5; i++) {
            Check.due("thick " + i, x.piece(i, 1), thin[i]);
        }
        int[][] wrong = {{0, 5}, {5, 0}, {21, 5}, {5, 21}, {-1, -1}, {Integer.MIN_VALUE, 5}, {5, Integer.MAX_VALUE}};
        for (int[] w : wrong) {
            Check.due("forge(" + w[0] + ", " + w[1] + ")", x.forge(w[0], w[1]), false);
        }
        Check.due("it stays", x.piece(0, 1), 13);
        Check.due("forge(1, 20)", x.forge(1, 20), true);
        Check.due("forge(20, 1)", x.forge(20, 1), true);
    }

    /** By forge(), breaks() and range(): what form() has to find. */
    private static void form(String blade, int low, int high, int... bends) {
        SingingSaw x = new SingingSaw();
        Check.blade(x, blade);
        x.keep(0);
        for (int i = 0; i < bends.length; i += 2) {
            x.write(bends[i], bends[i + 1]);
        }
        int best = -1;
        int most = -2;
        for (int s = low; s <= high; s++) {
            for (int e = low; e <= high; e++) {
                x.take(0);
                x.forge(s, e);
                boolean whole = true;
                for (int i = 0; i < bends.length; i += 2) {
                    whole = whole && x.breaks(bends[i], bends[i + 1]) == -1;
                }
                int range = x.range(0) == -1 ? -1 : x.range(1) - x.range(0);
                if (whole && range > most) {
                    most = range;
                    best = 100 * s + e;
                }
            }
        }
        x.take(0);
        String call = "form(" + low + ", " + high + ") of " + blade;
        Check.due(call, x.form(low, high), best);
        Check.due("formBy() of " + call, x.formBy(), best > 0 ? most : -1);
        Check.blade(x, "piece 3 9 9;");
        Check.due("formBy() later", x.formBy(), best > 0 ? most : -1);
    }

    /** Promises 30, 31: against forge(), breaks() and range(). */
    private static void forms() {
        form("piece 20 60 5;unit 60;bear 9999;", 4, 8, 2500, -2000, 900, -500, -700, 300);
        form("piece 20 60 5;unit 60;bear 1500;", 4, 8, 2500, -2000, 900, -500, -700, 300);
        form("piece 20 60 5;unit 60;bear 100;", 4, 5, 2500, -2000, 900, -500, -700, 300);
        form("piece 12 40 5 own 3;unit 40;bear 9999;", 5, 10, 2500, -2000, 900, -500);
        form("piece 12 40 5 own 3;unit 40;bear 9999;", 15, 20, 9000, -8000, 5000, -2500);
        form("piece 7 40 5 teeth 9 own -3;piece 5 30 9 own 6;unit 40;bear 9999;", 5, 10, 2500, -2000, 900, -500);
        form("piece 4 9 2 teeth 8;piece 9 90 5 teeth 1;unit 12;bear 900;", 3, 8, 400, -300, 300, -800, -100, 200);
        form("piece 12 40 5;unit 40;", 1, 1, 0, 0);
        form("piece 12 40 5;unit 40;", 20, 20, 0, 0, 5, 5);
    }

    /** Promises 30, 31: the first of like ones; low and high outside; an empty BOOK; all broken. */
    private static void formsThatTie() {
        SingingSaw x = new SingingSaw();
        Check.due("form of an empty BOOK", x.form(4, 5), -2);
        x.write(0, 0);
        // No VOICE anywhere: all RANGES are -1, and the least s, e is best.
        Check.due("form(4, 9)", x.form(4, 9), 404);
        Check.due("formBy()", x.formBy(), -1);
        int[][] wrong = {{0, 3}, {-1, 3}, {16, 21}, {4, 10}, {5, 4}, {21, 21}, {20, 19}, {1, 7}, {Integer.MIN_VALUE, Integer.MAX_VALUE},
            {Integer.MAX_VALUE, Integer.MIN_VALUE}, {1, Integer.MIN_VALUE}};
        for (int[] w : wrong) {
            Check.due("form(" + w[0] + ", " + w[1] + ")", x.form(w[0], w[1]), -2);
        }
        Check.due("the BLADE stays", x.piece(0, 1), 5);
        // One BEND: every FORM with a VOICE has RANGE 0.
        x = new SingingSaw();
        Check.blade(x, "piece 5 10 10;unit 10;");
        x.write(400, -400);
        Check.due("form(10, 12)", x.form(10, 12), 1010);
        Check.due("formBy()", x.formBy(), 0);
        Check.blade(x, "piece 5 10 10;unit 10;bear 1;");
        Check.due("form(10, 12), all broken", x.form(10, 12), -1);
        Check.due("formBy() stays", x.formBy(), 0);
        Check.due("form(0, 1)", x.form(0, 1), -2);
        Check.due("formBy() stays", x.formBy(), 0);
    }

    /** Promises 30, 31: nothing of the FORMS of one BLADE is left for those of the next one. */
    private static void formAfterForm() {
        SingingSaw x = new SingingSaw();
        x.write(2596, -2731);
        x.write(894, -3967);
        Check.blade(x, "piece 40 20 9 own 3;unit 300;");
        Check.due("form() of another BLADE", x.form(7, 10) != -2, true);
        Check.blade(x, "piece 11 48 5;unit 35;bear 9999;");
        Check.due("form(7, 10)", x.form(7, 10), 1007);
        Check.due("formBy()", x.formBy(), 4);
        Check.due("form(7, 10) again", x.form(7, 10), 1007);
        Check.blade(x, "piece 4 20 9 own 3;unit 300;");
        Check.due("form() of a shorter BLADE", x.form(7, 10) != -2, true);
        Check.blade(x, "piece 11 48 5;unit 35;bear 9999;");
        Check.due("form(7, 10) once more", x.form(7, 10), 1007);
        Check.due("formBy()", x.formBy(), 4);
    }
}
