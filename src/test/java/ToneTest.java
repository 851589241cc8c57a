/** Promises 10 (tone), 11 (run), 12 (bow), 13 (where), 14 (worth). */
public final class ToneTest {
    public static void main(String[] args) {
        keptAndLost();
        keptWithoutRinging();
        twice();
        highest();
        broken();
        wrongOnes();
        latestStays();
        whereToBow();
        Check.finish("ToneTest");
    }

    private static void tone(SingingSaw x, int k, int m, int f, int... run) {
        Check.due("tone(0, 0, " + k + ", " + m + ")", x.tone(0, 0, k, m), f);
        for (int what = 0; what < run.length; what++) {
            Check.due("run(" + what + ") of tone(0, 0, " + k + ", " + m + ")", x.run(what), run[what]);
        }
        Check.due("run(-1)", x.run(-1), -1);
        Check.due("run(5)", x.run(5), -1);
    }

    private static void bows(SingingSaw x, int... strengths) {
        for (int i = 0; i < strengths.length; i++) {
            Check.due("bow(" + i + ")", x.bow(i), strengths[i]);
        }
        Check.due("bow(-1)", x.bow(-1), -1);
        Check.due("bow(" + strengths.length + ")", x.bow(strengths.length), -1);
        Check.due("bow(MAX)", x.bow(Integer.MAX_VALUE), -1);
        Check.due("bow(MIN)", x.bow(Integer.MIN_VALUE), -1);
    }

    /** Promises 10, 11, 12: KEPT and LOST on each side, RINGS of the lesser side. */
    private static void keptAndLost() {
        SingingSaw x = new SingingSaw();
        Check.blade(x, BendTest.own(9, -3, 9) + "unit 4;");
        tone(x, 0, 0, 5, 1, 1, 1, 0, 7);
        bows(x, 0, 2, 0);
        tone(x, 0, 1, 10, 0, 2, 0, 0, 0);
        bows(x, 2, 0, 1);
        // Both sides ring: the lesser one counts, all PIECES of it, and only those above f.
        Check.blade(x, BendTest.own(20, 2, 12, 3, 13, 1, 40) + "unit 4;");
        tone(x, 1, 0, 5, 3, 3, 1, 0, 19 + 10);
        tone(x, 0, 0, 5, 1, 1, 1, 0, 19);
        // 19 + 10 + 12 on the one side, 39 on the other one.
        tone(x, 2, 0, 5, 5, 5, 1, 0, 39);
        Check.blade(x, BendTest.own(9, 3, 9, 9) + "unit 4;");
        tone(x, 0, 1, 10, 0, 3, 0, 0, 0);
        // LOST on one side alone.
        Check.blade(x, BendTest.own(4, 3, 9) + "unit 5;");
        tone(x, 0, 0, 5, 0, 1, 0, 0, 0);
        Check.blade(x, BendTest.own(9, 3, 4) + "unit 5;");
        tone(x, 0, 0, 5, 1, 2, 0, 0, 0);
        Check.blade(x, BendTest.own(3, 9, 9) + "unit 4;");
        tone(x, 0, 0, 5, 0, 0, 0, 0, 0);
    }

    /** Promises 10, 11, 18: f f just the WALLS. */
    private static void keptWithoutRinging() {
        SingingSaw x = new SingingSaw();
        // f f must be above the WALL: with f 5 the walls of 25 still hold, but nothing rings.
        Check.blade(x, BendTest.own(5, 3, 5) + "unit 4;");
        tone(x, 0, 0, 5, 1, 1, 1, 0, 0);
        Check.due("write", x.write(0, 0), 0);
        Check.due("its voice", x.voice(0, 0), 5);
        Check.due("its place", x.voice(0, 1), 1);
        // Of like ones the first PLACE.
        Check.blade(x, BendTest.own(5, 3, 5, 3, 5) + "unit 4;");
        Check.due("the first of two that do not ring", x.voice(0, 1), 1);
        Check.blade(x, BendTest.own(9, 3, 7, 3, 9) + "unit 4;");
        Check.due("the first of two alike", x.voice(0, 1), 1);
        Check.blade(x, BendTest.own(9, 3, 7, 2, 9, 9) + "unit 4;");
        Check.due("the one that rings longer", x.voice(0, 1), 3);
    }

    /** Promise 11: TWICE, and not. */
    private static void twice() {
        SingingSaw x = new SingingSaw();
        Check.blade(x, BendTest.own(9, 1, 3, 1, 9) + "unit 2;");
        tone(x, 0, 0, 3, 1, 1, 1, 0, 8);
        tone(x, 1, 0, 3, 3, 3, 1, 0, 8);
        Check.blade(x, BendTest.own(9, 1, 3, 1, 9) + "unit 3;");
        tone(x, 0, 0, 4, 1, 3, 1, 1, 8);
        tone(x, 1, 0, 4, 1, 3, 1, 1, 8);
        bows(x, 0, 1, 2, 0, 0);
        Check.due("tone(0, 0, 2, 0)", x.tone(0, 0, 2, 0), -1);
    }

    /** Promise 10: a tone of 2000 and of 1; 2000 is not enough. */
    private static void highest() {
        SingingSaw x = new SingingSaw();
        Check.blade(x, "piece 3 9 9;unit 2000;");
        tone(x, 0, 0, 667, 0, 2, 0, 0, 0);
        tone(x, 0, 1, 2000, 0, 2, 0, 0, 0);
        tone(x, 0, 2, -1);
        Check.blade(x, "piece 3 9 9;unit 2001;");
        tone(x, 0, 1, -1);
        Check.blade(x, "piece 60 9 9;unit 9999;");
        tone(x, 0, 0, 167);
        tone(x, 0, 5, 1834);
        Check.blade(x, "piece 3 9 9;unit 1;");
        tone(x, 0, 0, 1, 0, 2, 0, 0, 0);
        bows(x, 0, 1, 0);
        // The highest WALLS: 2000 2000 lets nothing go, 1999 1999 lets 2000 go with a PHASE of 63 each.
        Check.blade(x, "piece 3 1 1;unit 1;");
        Check.due("tone(2, 2, 0, 0)", x.tone(2, 2, 0, 0), -1);
        Check.blade(x, "piece 3 1 1 own -1;unit 189;");
        Check.due("tone(2, 2, 0, 0)", x.tone(2, 2, 0, 0), 2000);
        Check.blade(x, "piece 3 1 1 own -1;unit 190;");
        Check.due("tone(2, 2, 0, 0)", x.tone(2, 2, 0, 0), -1);
    }

    /** Promises 10, 13: a STRAIN that is just 'bear' has a TONE, one above has none. */
    private static void broken() {
        SingingSaw x = new SingingSaw();
        Check.blade(x, BendTest.own(9, 3, 9) + "unit 4;bear 45;");
        tone(x, 0, 0, 5, 1, 1, 1, 0, 7);
        Check.blade(x, BendTest.own(9, 3, 9) + "unit 4;bear 44;");
        tone(x, 0, 0, -1, 1, 1, 1, 0, 7);
        Check.due("where of a broken one", x.where(0, 0, 0, 0, 0), -1);
    }

    /** Promises 10, 13: k and m outside on each side. */
    private static void wrongOnes() {
        SingingSaw x = new SingingSaw();
        Check.due("run(0) ahead of any", x.run(0), -1);
        for (int k : new int[] {-1, 1, -2, Integer.MAX_VALUE, Integer.MIN_VALUE}) {
            Check.due("tone(0, 0, " + k + ", 0)", x.tone(0, 0, k, 0), -1);
            Check.due("where(0, 0, " + k + ", 0, 1)", x.where(0, 0, k, 0, 1), -1);
        }
        for (int m : new int[] {-1, 6, Integer.MAX_VALUE, Integer.MIN_VALUE}) {
            Check.due("tone(0, 0, 0, " + m + ")", x.tone(0, 0, 0, m), -1);
            Check.due("where(0, 0, 0, " + m + ", 1)", x.where(0, 0, 0, m, 1), -1);
            Check.due("where(0, 0, 0, 1, " + m + ")", x.where(0, 0, 0, 1, m), -1);
        }
        Check.due("tone(0, 0, 0, 5)", x.tone(0, 0, 0, 5), 1100);
    }

    /** Promises 11, 12: what a later call that is NONE, or another BLADE, leaves. */
    private static void latestStays() {
        SingingSaw x = new SingingSaw();
        Check.blade(x, BendTest.own(9, 3, 9) + "unit 4;");
        tone(x, 0, 0, 5, 1, 1, 1, 0, 7);
        Check.due("a tone that is none", x.tone(0, 0, 1, 0), -1);
        Check.blade(x, "piece 7 9 9;unit 9;");
        x.where(0, 0, 0, 1, 0);
        x.write(0, 0);
        x.voice(0, 0);
        for (int what = 0; what < 5; what++) {
            Check.due("run(" + what + ") stays", x.run(what), new int[] {1, 1, 1, 0, 7}[what]);
        }
        bows(x, 0, 2, 0);
        Check.due("tone of the new blade", x.tone(0, 0, 0, 0), 2);
        Check.due("bow(6)", x.bow(6), 5);
        Check.due("bow(7)", x.bow(7), -1);
    }

    /** Promises 13, 14: the first of like ones; worth() 0 ahead of any. */
    private static void whereToBow() {
        SingingSaw x = new SingingSaw();
        Check.due("worth() ahead of any", x.worth(), 0);
        Check.blade(x, BendTest.own(9, 3, 9) + "unit 4;");
        Check.due("where(.., 1, 0)", x.where(0, 0, 0, 1, 0), 0);
        Check.due("worth()", x.worth(), 2);
        Check.due("where(.., 0, 1)", x.where(0, 0, 0, 0, 1), 1);
        Check.due("worth()", x.worth(), 2);
        Check.due("where(.., 9, 1)", x.where(0, 0, 0, 9, 1), -1);
        Check.due("worth() stays", x.worth(), 2);
        Check.due("where(.., 1, 1)", x.where(0, 0, 0, 1, 1), 0);
        Check.due("worth() of like ones", x.worth(), 0);
        Check.due("where does not tell run()", x.run(0), -1);
        // By the strengths that bow() tells: the greatest difference, of like ones the first.
        Check.blade(x, "piece 9 10 10;unit 25;");
        for (int m = 0; m <= 3; m++) {
            for (int o = 0; o <= 3; o++) {
                int[] strengths = new int[9];
                x.tone(900, -700, 0, m);
                for (int i = 0; i < 9; i++) {
                    strengths[i] = x.bow(i);
                }
                x.tone(900, -700, 0, o);
                int best = 0;
                for (int i = 0; i < 9; i++) {
                    strengths[i] -= x.bow(i);
                    best = strengths[i] > strengths[best] ? i : best;
                }
                Check.due("where(900, -700, 0, " + m + ", " + o + ")", x.where(900, -700, 0, m, o), best);
                Check.due("worth()", x.worth(), strengths[best]);
            }
        }
    }
}
