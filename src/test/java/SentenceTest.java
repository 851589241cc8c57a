/** Promises 33 (sentence), 34 (said). */
public final class SentenceTest {
    private static final Check.Reader SENTENCE = Check::sentence;

    public static void main(String[] args) {
        ones();
        faults();
        tooManyOnes();
        tooLong();
        truths();
        tickByTick();
        bindings();
        saying();
        Check.finish("SentenceTest");
    }

    /** Promise 33: how many ONES. */
    private static void ones() {
        SingingSaw x = new SingingSaw();
        Check.fine(SENTENCE, x, "sings", 1);
        Check.fine(SENTENCE, x, " broken\n", 1);
        Check.fine(SENTENCE, x, "not twice", 2);
        Check.fine(SENTENCE, x, "(twice)", 2);
        Check.fine(SENTENCE, x, "not(not sings)", 4);
        Check.fine(SENTENCE, x, "tone<1 and place = 2 or rings >3 and strain<0000 or places>9999 and tick=5", 6);
        Check.fine(SENTENCE, x, "not (sings and not broken) or (tick < 5 or tone = 7) and twice", 9);
    }

    /** Promises 5, 33, Terms 5: FAULT 1. */
    private static void faults() {
        SingingSaw x = new SingingSaw();
        Check.fault(SENTENCE, x, "", 0, 1);
        Check.fault(SENTENCE, x, "  ", 2, 1);
        Check.fault(SENTENCE, x, "and", 0, 1);
        Check.fault(SENTENCE, x, "sing", 0, 1);
        Check.fault(SENTENCE, x, "sings.", 5, 1);
        Check.fault(SENTENCE, x, "sings;", 5, 1);
        Check.fault(SENTENCE, x, "sings broken", 6, 1);
        Check.fault(SENTENCE, x, "sings and", 9, 1);
        Check.fault(SENTENCE, x, "sings or ", 9, 1);
        Check.fault(SENTENCE, x, "sings and or", 10, 1);
        Check.fault(SENTENCE, x, "not", 3, 1);
        Check.fault(SENTENCE, x, "not and", 4, 1);
        Check.fault(SENTENCE, x, "()", 1, 1);
        Check.fault(SENTENCE, x, "(sings", 6, 1);
        Check.fault(SENTENCE, x, "(sings))", 7, 1);
        Check.fault(SENTENCE, x, "(sings broken)", 7, 1);
        Check.fault(SENTENCE, x, ")", 0, 1);
        Check.fault(SENTENCE, x, "tone", 4, 1);
        Check.fault(SENTENCE, x, "tone 5", 5, 1);
        Check.fault(SENTENCE, x, "tone >", 6, 1);
        Check.fault(SENTENCE, x, "tone >= 5", 6, 1);
        Check.fault(SENTENCE, x, "tone - 5", 5, 1);
        Check.fault(SENTENCE, x, "tone ; 5", 5, 1);
        Check.fault(SENTENCE, x, "tone > -5", 7, 1);
        Check.fault(SENTENCE, x, "tone > 10000", 7, 1);
        Check.fault(SENTENCE, x, "tone > tone", 7, 1);
        Check.fault(SENTENCE, x, "5 < tone", 0, 1);
        Check.fault(SENTENCE, x, "sings < 5", 6, 1);
        Check.fault(SENTENCE, x, "tone > 5x", 7, 1);
        Check.fault(SENTENCE, x, "Sings", 0, 1);
        Check.fault(SENTENCE, x, "tone ? 5", 5, 1);
        Check.fault(SENTENCE, x, "places<5 tick", 9, 1);
    }

    /** Promises 5, 33, Terms 5: 20 ONES and a 21st, 8 within one another and a ninth. */
    private static void tooManyOnes() {
        SingingSaw x = new SingingSaw();
        String twenty = "sings" + " or sings".repeat(19);
        Check.fine(SENTENCE, x, twenty, 20);
        Check.fault(SENTENCE, x, twenty + " or sings", twenty.length() + 4, 4);
        Check.fault(SENTENCE, x, twenty + " or (", twenty.length() + 4, 4);
        Check.fault(SENTENCE, x, twenty + " or not", twenty.length() + 4, 4);
        Check.fault(SENTENCE, x, twenty + " or tone ?", twenty.length() + 4, 4);
        Check.fault(SENTENCE, x, twenty + " or ?", twenty.length() + 4, 1);
        Check.fault(SENTENCE, x, twenty + " or", twenty.length() + 3, 1);
        Check.fault(SENTENCE, x, twenty + " sings", twenty.length() + 1, 1);
        // 8 within one another are fine, a ninth is not; nor is it as the first of a bracket.
        Check.fine(SENTENCE, x, "not ".repeat(7) + "sings", 8);
        Check.fault(SENTENCE, x, "not ".repeat(8) + "sings", 32, 4);
        Check.fault(SENTENCE, x, "not ".repeat(9) + "sings", 32, 4);
        Check.fault(SENTENCE, x, "not ".repeat(8) + "or", 32, 1);
        Check.fault(SENTENCE, x, "not ".repeat(8), 32, 1);
        Check.fine(SENTENCE, x, "(".repeat(7) + "sings" + ")".repeat(7), 8);
        Check.fault(SENTENCE, x, "(".repeat(8) + "sings" + ")".repeat(8), 8, 4);
        Check.fault(SENTENCE, x, "(".repeat(200), 8, 4);
        Check.fine(SENTENCE, x, "not(".repeat(3) + "not sings or twice" + ")".repeat(3) + " and ((broken))", 12);
        Check.fault(SENTENCE, x, "not(".repeat(4) + "sings", 16, 4);
        Check.due("the SENTENCE stays", x.said(-1), 0);
    }

    /** Promises 5, 33, Terms 5: 200 bytes and 201. */
    private static void tooLong() {
        SingingSaw x = new SingingSaw();
        Check.fine(SENTENCE, x, "sings" + " ".repeat(195), 1);
        Check.fault(SENTENCE, x, "sings" + " ".repeat(196), 200, 1);
        Check.fault(SENTENCE, x, " ".repeat(199) + "sings", 200, 1);
        Check.fault(SENTENCE, x, " ".repeat(199) + "singt", 199, 1);
        Check.fault(SENTENCE, x, " ".repeat(200) + "singt", 200, 1);
        Check.fault(SENTENCE, x, "tone <" + " ".repeat(193) + "12345", 199, 1);
        Check.fault(SENTENCE, x, "tone <" + " ".repeat(193) + "1234", 200, 1);
        Check.fault(SENTENCE, x, "sings" + " ".repeat(535), 200, 1);
    }

    private static SingingSaw withHand() {
        SingingSaw x = new SingingSaw();
        Check.blade(x, BendTest.own(9, 1, 3, 1, 9) + "unit 3;bear 60;");
        // Walls 9, 1, 3, 1, 9 sing 4 from PIECE 1 on, twice; TICKS 4 and 6 break it, TICK 5 makes one PLACE of it.
        Check.hand(x, "wait 2;at 9 9;wait 1;at 99 99;wait 1;at -9 -9;wait 1;at 0 30;wait 1;");
        return x;
    }

    private static String truth(SingingSaw x, String text) {
        Check.due("reading '" + text + "'", Check.sentence(x, text) > 0, true);
        StringBuilder so = new StringBuilder();
        int ticks = x.said(-1);
        for (int k = 0; k < ticks; k++) {
            so.append(x.said(k)).append(' ');
        }
        Check.due("said(" + ticks + ")", x.said(ticks), -1);
        return so.toString().trim();
    }

    /** Promise 34: each WHAT with each SIGN against what the other calls tell of the TICKS. */
    private static void truths() {
        SingingSaw x = withHand();
        int ticks = x.count(3);
        String[] what = {"tone", "place", "rings", "strain", "places", "tick"};
        int[][] values = new int[6][ticks + 1];
        for (int t = 1; t <= ticks; t++) {
            int a = x.tick(t, 0);
            int b = x.tick(t, 1);
            values[0][t] = x.tick(t, 2);
            values[1][t] = x.tick(t, 3);
            values[2][t] = x.tick(t, 4);
            for (int i = 0; i < x.count(0); i++) {
                values[3][t] = Math.max(values[3][t], x.bend(a, b, i, 1));
            }
            values[4][t] = x.place(a, b, -1);
            values[5][t] = t;
        }
        for (int w = 0; w < 6; w++) {
            // An object has 512 calls.
            x = withHand();
            for (int t = 1; t <= ticks; t++) {
                for (String sign : new String[] {"<", "=", ">"}) {
                    StringBuilder so = new StringBuilder();
                    for (int u = 1; u <= ticks; u++) {
                        int c = Integer.compare(values[w][u], values[w][t]);
                        so.append(sign.equals("<") ? c < 0 : sign.equals(">") ? c > 0 : c == 0).append(' ');
                    }
                    String got = " " + truth(x, what[w] + sign + values[w][t]) + " ";
                    String[] due = so.toString().split(" ");
                    for (int u = 1; u <= ticks; u++) {
                        Check.due(what[w] + sign + values[w][t] + " in tick " + u, got.contains(" " + u + " "), due[u - 1].equals("true"));
                    }
                }
            }
        }
        x = withHand();
        text(x, "sings", "1 2 3 5");
        text(x, "broken", "4 6");
        text(x, "tone = 0", "4 6");
        text(x, "place = 99", "4 6");
        text(x, "place = 1 and rings = 8 and tone = 4", "1 2");
        text(x, "places = 2", "1 2 3 4 6");
        text(x, "strain > 60", "4 6");
        text(x, "twice and tick < 3", "1 2");
        Check.due("twice in the ticks that sing twice", x.tone(0, 0, 0, 0), 4);
        Check.due("twice there", x.run(3), 1);
    }

    /** Promise 34: what a TICK tells is its own; nothing of the one ahead is left in it. */
    private static void tickByTick() {
        SingingSaw x = withHand();
        Check.hand(x, "wait 1;at 99 99;wait 1;at 0 0;wait 1;");
        text(x, "twice", "1 3");
        text(x, "rings = 0", "2");
        x = new SingingSaw();
        Check.hand(x, "at 9 9;wait 1;at 0 0;wait 1;");
        text(x, "strain = 0", "2");
        text(x, "strain < 1", "2");
        // The lowest VOICE of all is 1.
        Check.blade(x, BendTest.own(9, 0, 9) + "unit 1;");
        text(x, "tone = 1", "2");
        text(x, "sings", "1 2");
    }

    private static void text(SingingSaw x, String sentence, String due) {
        String got = truth(x, sentence);
        Check.due("'" + sentence + "' is so in " + got + ", due: " + due, got.equals(due), true);
    }

    /** Promise 34: 'and' binds closer than 'or', 'not' closest; TICKS 1 to 8 stand for all truths of three. */
    private static void bindings() {
        SingingSaw x = new SingingSaw();
        Check.hand(x, "wait 8;");
        String a = "tick>4";
        String b = "(tick=3 or tick=4 or tick>6)";
        String c = "(tick=2 or tick=4 or tick=6 or tick=8)";
        text(x, a, "5 6 7 8");
        text(x, b, "3 4 7 8");
        text(x, c, "2 4 6 8");
        text(x, a + " or " + b + " and " + c, "4 5 6 7 8");
        text(x, a + " and " + b + " or " + c, "2 4 6 7 8");
        text(x, "(" + a + " or " + b + ") and " + c, "4 6 8");
        text(x, a + " and (" + b + " or " + c + ")", "6 7 8");
        text(x, "not " + a + " and " + b, "3 4");
        text(x, "not " + a + " or " + b, "1 2 3 4 7 8");
        text(x, "not (" + a + " or " + b + ")", "1 2");
        text(x, "not (" + a + " and " + b + ")", "1 2 3 4 5 6");
        text(x, "not not " + a, "5 6 7 8");
        text(x, a + " and not " + b, "5 6");
        text(x, a + " or not " + b, "1 2 5 6 7 8");
        text(x, a + " or not " + b + " and tick<2 or tick = 3", "1 3 5 6 7 8");
        text(x, "tick<1 or tick<2 or tick<3 or tick<4 or tick<5 or tick<6 and tick<7 and tick<8 and tick<9", "1 2 3 4 5");
        text(x, "tick<9 and tick<7 and not tick<3 and (tick<5 or tick>5 and not (sings and broken))", "3 4 6");
        text(x, "((((tick<9) and tick<8) and tick<7) and tick<6)", "1 2 3 4 5");
        text(x, "tick>0 and (tick>1 and (tick>2 and (tick>3 and (tick>4))))", "5 6 7 8");
    }

    /** Promise 34: no SENTENCE, no TICKS, all 200; k outside on each side; what it is so with changes. */
    private static void saying() {
        SingingSaw x = new SingingSaw();
        for (int k = -2; k < 2; k++) {
            Check.due("said(" + k + ") without a SENTENCE", x.said(k), -1);
        }
        Check.sentence(x, "tick>0");
        Check.due("said(-1) without TICKS", x.said(-1), 0);
        Check.due("said(0) without TICKS", x.said(0), -1);
        Check.hand(x, "wait 99;wait 99;wait 2;");
        Check.due("said(-1) with 200 TICKS", x.said(-1), 200);
        Check.due("said(0)", x.said(0), 1);
        Check.due("said(199)", x.said(199), 200);
        for (int k : new int[] {-2, 200, Integer.MAX_VALUE, Integer.MIN_VALUE}) {
            Check.due("said(" + k + ")", x.said(k), -1);
        }
        // With another BLADE, HAND or SENTENCE something else is so.
        Check.blade(x, "piece 5 10 10;unit 10;");
        Check.sentence(x, "tone = 10");
        Check.hand(x, "wait 1;at 400 -400;wait 2;");
        Check.due("10 is sung", x.said(-1), 2);
        Check.due("10 is sung first", x.said(0), 2);
        x.keep(0);
        Check.blade(x, "piece 5 10 10;unit 20;");
        Check.due("10 is not sung", x.said(-1), 0);
        x.take(0);
        Check.due("10 is sung again", x.said(-1), 2);
        x.image(0);
        x.forge(11, 11);
        Check.due("10 is not sung, forged", x.said(-1), 2);
        x.forge(19, 19);
        Check.due("10 is not sung, forged", x.said(-1), 0);
        x.restore(0);
        Check.due("10 is sung, restored", x.said(-1), 2);
        Check.sentence(x, "tone =");
        Check.due("the SENTENCE stays with a FAULT", x.said(-1), 2);
        Check.sentence(x, "tone = 0");
        Check.due("0 is sung", x.said(-1), 1);
        Check.hand(x, "at 400 400;wait 7;");
        Check.due("0 is sung seven times", x.said(-1), 7);
    }
}
