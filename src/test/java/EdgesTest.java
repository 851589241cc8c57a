/**
 * The promises, one by one: of each number that a call takes the first and the last one that are taken, and those next to
 * them on the outside. (The Terms: TermsTest; what a refused call leaves as it is: StaysTest.)
 */
public final class EdgesTest {
    private static final int MIN = Integer.MIN_VALUE;
    private static final int MAX = Integer.MAX_VALUE;

    private interface Call {
        long on(int number);
    }

    public static void main(String[] args) {
        tapes();
        texts();
        pieces();
        curves();
        placesAndTones();
        latestTone();
        whereToBow();
        ticks();
        books();
        notes();
        lists();
        shelves();
        thick();
        saying();
        images();
        counts();
        Check.finish("EdgesTest");
    }

    /** From low to high the call does not answer refused, next to that and far outside it does. */
    private static void ends(String name, int low, int high, long refused, Call call) {
        for (int number : new int[] {low, high}) {
            long got = call.on(number);
            Check.due(name + ", number " + number + ", is taken (it answered " + got + ")", got != refused, true);
        }
        for (int number : new int[] {low - 1, high + 1, MIN, MAX}) {
            Check.due(name + ", number " + number, call.on(number), refused);
        }
    }

    private static long bit(boolean b) {
        return b ? 1 : 0;
    }

    private static SingingSaw saw(String blade) {
        SingingSaw x = new SingingSaw();
        Check.due("reading '" + blade + "'", Check.blade(x, blade) > 0, true);
        return x;
    }

    private static SingingSaw singing() {
        SingingSaw x = saw("piece 5 10 10;unit 10;");
        x.write(400, -400);
        x.write(800, -400);
        return x;
    }

    /** Promises 2, 3. */
    private static void tapes() {
        for (int bytes : new int[] {0, 1, 519, 520, 521, 539, 540}) {
            SingingSaw x = new SingingSaw();
            for (int i = 0; i < 27; i++) {
                Check.due("Promise 2: feed " + i, x.feed(i, i, i, i, i), 20 * i + 20);
            }
            Check.due("Promise 3: end(541)", x.end(541), false);
            Check.due("Promise 3: end(" + bytes + ")", x.end(bytes), true);
            Check.due("Promise 3: end(" + (bytes + 1) + ") of " + bytes, x.end(bytes + 1), false);
            Check.due("Promise 2: feed at " + bytes, x.feed(0, 0, 0, 0, 0), bytes <= 520 ? bytes + 20 : -1);
            Check.due("Promise 37: bytes behind it", x.count(5), bytes <= 520 ? bytes + 20 : bytes);
            ends("Promise 3: end()", 0, 0, 0, n -> n == x.count(5) + 1 || n == 1 ? 0 : bit(x.end(n)));
        }
        SingingSaw x = new SingingSaw();
        x.feed(1, 2, 3, 4, 5);
        ends("Promise 3: end() of 20", 20, 20, 0, n -> n == 19 ? 0 : bit(x.end(n)));
        Check.due("Promise 3: end(-1)", x.end(-1), false);
        Check.due("Promise 3: the tape stays", x.count(5), 20);
        Check.due("Promise 3: end(0)", x.end(0), true);
        Check.due("Promise 3: end(0) of an empty tape", x.end(0), true);
        Check.due("Promise 3: end(1) of an empty tape", x.end(1), false);
        order();
    }

    /** Promise 2: "Twenty bytes come behind the tape, of each number the highest first". */
    private static void order() {
        SingingSaw x = new SingingSaw();
        // "wait 12;" + "at -345 6789;" in bytes, a number at a time.
        Check.due("feed", x.feed(0x77616974, 0x2031323b, 0x61742000, 0, 0), 20);
        Check.due("end(11)", x.end(11), true);
        Check.due("feed behind 11", x.feed(0x2d333435, 0x20363738, 0x393b7761, 0x69742031, 0x3b202020), 31);
        Check.due("the HAND", x.hand(), 13);
        Check.due("a ahead", x.tick(12, 0), 0);
        Check.due("a", x.tick(13, 0), -345);
        Check.due("b", x.tick(13, 1), 6789);
    }

    /** Promises 4, 5, 15, 33: the tape is empty behind each of them, with a FAULT, too; fault() is of the latest. */
    private static void texts() {
        SingingSaw x = new SingingSaw();
        Check.due("Promise 5: ahead of any", x.fault(), 0);
        String[] wrong = {"unit", "unit 0", "unit 1;unit", "piece 60 1 1;piece 1"};
        for (int i = 0; i < wrong.length; i++) {
            Check.feed(x, wrong[i]);
            Check.due("Promise 4: '" + wrong[i] + "'", x.blade() < 0, true);
            Check.due("Promise 5: kind", x.fault(), i + 1);
            Check.due("Promise 4: the tape", x.count(5), 0);
            Check.due("Promise 4: it stays", x.count(0), 3);
            Check.due("Promise 15: no text", x.hand(), 0);
            Check.due("Promise 5: without one", x.fault(), 0);
            Check.due("Promise 33: no text", x.sentence(), -1);
            Check.due("Promise 5: kind", x.fault(), 1);
            Check.due("Promise 4: a BLADE", Check.blade(x, "piece 3 30 5;"), 3);
            Check.due("Promise 5: without one", x.fault(), 0);
        }
        Check.due("Promise 4: no text", x.blade(), -1);
        Check.due("Promise 4: the least BLADE", Check.blade(x, "piece 3 1 1;"), 3);
        Check.due("Promise 4: the longest BLADE", Check.blade(x, "piece 60 1 1;"), 60);
        Check.due("Promise 15: the longest HAND", Check.hand(x, "wait 99;wait 99;wait 2;"), 200);
        Check.due("Promise 33: the shortest SENTENCE", Check.sentence(x, "sings"), 1);
        Check.due("Promise 33: 20 ONES", Check.sentence(x, "not twice and ".repeat(9) + "not twice"), 20);
        Check.due("Promise 4: what is left of the tape is no text", x.blade(), -1);
    }

    /** Promise 6. */
    private static void pieces() {
        SingingSaw x = new SingingSaw();
        ends("Promise 6: piece(i, 0) of 3", 0, 2, Check.THROWN, i -> Check.piece(x, i, 0));
        ends("Promise 6: piece(0, what)", 0, 4, Check.THROWN, what -> Check.piece(x, 0, what));
        ends("Promise 6: piece(2, what)", 0, 4, Check.THROWN, what -> Check.piece(x, 2, what));
        Check.blade(x, "piece 60 9 9 teeth 8 own -99;");
        ends("Promise 6: piece(i, 4) of 60", 0, 59, Check.THROWN, i -> Check.piece(x, i, 4));
        int[] told = {9, 9, 8, -99, 729};
        for (int what = 0; what <= 4; what++) {
            Check.due("Promise 6: piece(59, " + what + ")", x.piece(59, what), told[what]);
        }
        Check.blade(x, "piece 4 9 9;");
        ends("Promise 6: piece(i, 0) of 4, behind 60", 0, 3, Check.THROWN, i -> Check.piece(x, i, 0));
    }

    /** Promises 7, 8. */
    private static void curves() {
        SingingSaw x = saw("piece 60 99 20;bear 239;");
        for (int what = 0; what <= 1; what++) {
            int w = what;
            ends("Promise 7: a of bend(a, 0, 0, " + w + ")", -9999, 9999, Check.THROWN, a -> Check.bend(x, a, 0, 0, w));
            ends("Promise 7: b of bend(0, b, 59, " + w + ")", -9999, 9999, Check.THROWN, b -> Check.bend(x, 0, b, 59, w));
            ends("Promise 7: bend(0, 0, i, " + w + ")", 0, 59, Check.THROWN, i -> Check.bend(x, 0, 0, i, w));
        }
        ends("Promise 7: bend(0, 0, 0, what)", 0, 1, Check.THROWN, what -> Check.bend(x, 0, 0, 0, what));
        ends("Promise 7: bend(0, 0, 59, what)", 0, 1, Check.THROWN, what -> Check.bend(x, 0, 0, 59, what));
        ends("Promise 8: a of breaks(a, 0)", -9999, 9999, -2, a -> x.breaks(a, 0));
        ends("Promise 8: b of breaks(0, b)", -9999, 9999, -2, b -> x.breaks(0, b));
        Check.due("Promise 8: the first PIECE", x.breaks(9999, 0), 0);
        Check.due("Promise 8: the last PIECE", x.breaks(0, -9504), 59);
        Check.due("Promise 8: none", x.breaks(9503, -9503), -1);
        Check.due("Promise 8: both", x.breaks(9504, -9504), 0);
    }

    /** Promises 9, 10. */
    private static void placesAndTones() {
        SingingSaw x = saw(BendTest.own(9, 1, 9, 1, 9, 1, 9) + "unit 2;");
        ends("Promise 9: place(0, 0, k)", 0, 2, -1, k -> k == -1 ? -1 : x.place(0, 0, k));
        Check.due("Promise 9: how many there are", x.place(0, 0, SingingSaw.NONE), 3);
        Check.due("Promise 9: place(0, 0, -2)", x.place(0, 0, -2), -1);
        ends("Promise 9: place(a, 0, -1)", -9999, 9999, -1, a -> x.place(a, 0, -1));
        ends("Promise 9: place(0, b, 0)", -9999, 9999, -1, b -> x.place(0, b, 0));
        ends("Promise 10: tone(0, 0, k, 0)", 0, 2, -1, k -> x.tone(0, 0, k, 0));
        ends("Promise 10: tone(0, 0, 2, m)", 0, 5, -1, m -> x.tone(0, 0, 2, m));
        ends("Promise 13: where(0, 0, k, 0, 1)", 0, 2, -1, k -> x.where(0, 0, k, 0, 1));
        ends("Promise 13: where(0, 0, 2, m, 0)", 0, 5, -1, m -> x.where(0, 0, 2, m, 0));
        ends("Promise 13: where(0, 0, 2, 0, o)", 0, 5, -1, o -> x.where(0, 0, 2, 0, o));
        SingingSaw y = saw("piece 60 99 20;unit 1;bear 9999;");
        ends("Promise 10: tone(a, 9999, 0, 0)", -9999, 9999, -1, a -> y.tone(a, 9999, 0, 0));
        ends("Promise 10: tone(9999, b, 0, 0)", -9999, 9999, -1, b -> y.tone(9999, b, 0, 0));
        ends("Promise 13: where(a, 9999, 0, 0, 1)", -9999, 9999, -1, a -> y.where(a, 9999, 0, 0, 1));
        ends("Promise 13: where(9999, b, 0, 0, 1)", -9999, 9999, -1, b -> y.where(9999, b, 0, 0, 1));
        // One PLACE alone in 60 PIECES that are alike: at the knee.
        Check.due("Promise 9: one PLACE", y.place(0, 0, -1), 1);
        Check.due("Promise 9: at the knee", y.place(0, 0, 0), 0);
        Check.due("Promise 9: no other one", y.place(0, 0, 1), -1);
    }

    /** Promises 11, 12. */
    private static void latestTone() {
        SingingSaw x = saw("piece 60 9 9;unit 30;");
        for (int what = -1; what <= 5; what++) {
            Check.due("Promise 11: run(" + what + ") ahead of any", x.run(what), -1);
        }
        for (int i : new int[] {-1, 0, 59, 60}) {
            Check.due("Promise 12: bow(" + i + ") ahead of any", x.bow(i), -1);
        }
        Check.due("Promise 10: none yet", x.tone(0, 0, 1, 0), -1);
        Check.due("Promise 11: run(0) ahead of any still", x.run(0), -1);
        Check.due("Promise 12: bow(0) ahead of any still", x.bow(0), -1);
        Check.due("Promise 13: where() is not tone()", x.where(0, 0, 0, 0, 1) >= 0, true);
        Check.due("Promise 11: run(0) behind where()", x.run(0), -1);
        Check.due("Promise 12: bow(0) behind where()", x.bow(0), -1);
        Check.due("Promise 10: tone(0, 0, 0, 0)", x.tone(0, 0, 0, 0), 1);
        ends("Promise 11: run(what)", 0, 4, -1, what -> x.run(what));
        ends("Promise 12: bow(i)", 0, 59, -1, i -> x.bow(i));
        int[] told = {0, 59, 0, 0, 0};
        Check.blade(x, "piece 3 9 9;");
        for (int what = 0; what <= 4; what++) {
            Check.due("Promise 11: run(" + what + ") with another BLADE", x.run(what), told[what]);
        }
        ends("Promise 12: bow(i) of that BLADE", 0, 59, -1, i -> x.bow(i));
        Check.due("Promise 12: 29 of 60", x.bow(59), 1);
        Check.due("Promise 12: the middle", x.bow(30), 30);
        Check.due("Promise 10: another one", x.tone(0, 0, 0, 0), 100);
        ends("Promise 12: bow(i) of the BLADE now", 0, 2, -1, i -> x.bow(i));
    }

    /** Promises 13, 14. */
    private static void whereToBow() {
        SingingSaw x = saw("piece 5 9 9;unit 5;");
        Check.due("Promise 14: ahead of any", x.worth(), 0);
        Check.due("Promise 13: none", x.where(0, 0, 1, 0, 1), -1);
        Check.due("Promise 14: ahead of any still", x.worth(), 0);
        // 0 1 2 3 4 with no humps, 1 4 3 0 3 with one, 2 3 2 3 2 with two.
        Check.due("Promise 13: 0 and not 1", x.where(0, 0, 0, 0, 1), 3);
        Check.due("Promise 14: 3 less 0", x.worth(), 3);
        Check.due("Promise 13: 1 and not 0, the first of like ones", x.where(0, 0, 0, 1, 0), 1);
        Check.due("Promise 14: 4 less 1", x.worth(), 3);
        Check.due("Promise 13: 0 and not 2", x.where(0, 0, 0, 0, 2), 4);
        Check.due("Promise 14: 4 less 2", x.worth(), 2);
        Check.due("Promise 13: 2 and not 0, the first of like ones", x.where(0, 0, 0, 2, 0), 0);
        Check.due("Promise 14: 2 less 0", x.worth(), 2);
        Check.due("Promise 13: 1 and not 2, the first of like ones", x.where(0, 0, 0, 1, 2), 1);
        Check.due("Promise 14: 4 less 3", x.worth(), 1);
        Check.due("Promise 13: 2 and not 1", x.where(0, 0, 0, 2, 1), 3);
        Check.due("Promise 14: 3 less 0", x.worth(), 3);
        Check.due("Promise 13: none", x.where(0, 0, 0, 2, 6), -1);
        Check.due("Promise 14: it stays", x.worth(), 3);
        Check.due("Promise 13: the same", x.where(0, 0, 0, 2, 2), 0);
        Check.due("Promise 14: no difference", x.worth(), 0);
    }

    /** Promise 16. */
    private static void ticks() {
        SingingSaw x = new SingingSaw();
        for (int what = -1; what <= 5; what++) {
            for (int t = -1; t <= 1; t++) {
                Check.due("Promise 16: tick(" + t + ", " + what + ") without a HAND", Check.tick(x, t, what), Check.THROWN);
            }
        }
        Check.hand(x, "wait 1;");
        ends("Promise 16: tick(t, 0) of 1", 1, 1, Check.THROWN, t -> Check.tick(x, t, 0));
        ends("Promise 16: tick(1, what)", 0, 4, Check.THROWN, what -> Check.tick(x, 1, what));
        Check.hand(x, "wait 99;wait 99;at 7 8;wait 2;");
        ends("Promise 16: tick(t, 4) of 200", 1, 200, Check.THROWN, t -> Check.tick(x, t, 4));
        ends("Promise 16: tick(200, what)", 0, 4, Check.THROWN, what -> Check.tick(x, 200, what));
        int[] told = {7, 8, 0, 99, 0};
        for (int what = 0; what <= 4; what++) {
            Check.due("Promise 16: tick(200, " + what + ")", x.tick(200, what), told[what]);
        }
        Check.hand(x, "wait 2;");
        ends("Promise 16: tick(t, 0) of 2, behind 200", 1, 2, Check.THROWN, t -> Check.tick(x, t, 0));
    }

    /** Promises 17, 18, 19, 24, 26. */
    private static void books() {
        for (int side = 0; side < 2; side++) {
            boolean isA = side == 0;
            SingingSaw x = new SingingSaw();
            ends("Promise 17: write(), side " + side, -9999, 9999, -1, n -> isA ? x.write(n, 0) : x.write(0, n));
            Check.due("Promise 37: two were written", x.count(4), 2);
            ends("Promise 18: voice(k, 0) of 2", 0, 1, -1, k -> x.voice(k, 0));
            ends("Promise 18: voice(k, 1) of 2", 0, 1, -1, k -> x.voice(k, 1));
            ends("Promise 18: voice(0, what)", 0, 1, -1, what -> x.voice(0, what));
        }
        SingingSaw x = singing();
        ends("Promise 19: range(what)", 0, 3, -1, what -> x.range(what));
        ends("Promise 24: even(j, 0, 1)", 0, 1, -1, j -> x.even(j, 0, 1));
        ends("Promise 24: even(0, k, 1)", 0, 1, -1, k -> x.even(0, k, 1));
        ends("Promise 24: even(0, 1, n)", 1, 20, -1, n -> x.even(0, 1, n));
        ends("Promise 26: tremble(400, -400, j)", 0, 99, -1, j -> j == 100 ? -1 : x.tremble(400, -400, j));
        SingingSaw y = saw("piece 60 99 20;unit 1;bear 9999;");
        ends("Promise 26: tremble(a, -9999, 0)", 9999, 9999, -1, a -> a == 9998 ? -1 : y.tremble(a, -9999, 0));
        ends("Promise 26: tremble(9999, b, 0)", -9999, -9999, -1, b -> b == -9998 ? -1 : y.tremble(9999, b, 0));
        ends("Promise 26: tremble(9999, -9999, j)", 0, 999, -1, j -> y.tremble(9999, -9999, j));
    }

    /** Promises 20, 22, 29. */
    private static void notes() {
        SingingSaw x = singing();
        x.keep(0);
        ends("Promise 20: SLIP", 0, 200, -2, slip -> {
            Check.feedNotes(x, 10);
            return x.song(slip);
        });
        ends("Promise 20: a note", 1, 2000, -2, note -> {
            Check.feedNotes(x, Math.max(-1, Math.min(65535, note)));
            return x.song(0);
        });
        ends("Promise 20: the second note", 1, 2000, -2, note -> {
            Check.feedNotes(x, 10, Math.max(-1, Math.min(65535, note)));
            return x.song(200);
        });
        ends("Promise 22: SLIP", 0, 200, -1, slip -> x.read(10, slip));
        ends("Promise 22: tone", 1, 2000, -1, tone -> x.read(tone, 200));
        SingingSaw y = singing();
        y.keep(3);
        ends("Promise 29: SLIP", 0, 200, -1, slip -> {
            Check.feedTold(y, 0, 10);
            return y.which(slip);
        });
        ends("Promise 29: a tone", 1, 2000, -1, tone -> {
            Check.feedTold(y, 0, Math.max(-1, Math.min(65535, tone)));
            return y.which(0);
        });
        ends("Promise 29: a BEND of the BOOK", 0, 1, -1, k -> {
            Check.feedTold(y, k < 0 || k > 255 ? 255 : k, 10);
            return y.which(0);
        });
        for (int told = 0; told <= 41; told++) {
            SingingSaw z = told % 10 == 0 ? singing() : saw("piece 5 10 10;unit 10;");
            if (z.count(4) == 0) {
                z.write(400, -400);
            }
            z.keep(1);
            int[] pairs = new int[2 * told];
            int[] notes = new int[told];
            for (int i = 0; i < told; i++) {
                pairs[2 * i + 1] = 10;
                notes[i] = 10;
            }
            Check.feedTold(z, pairs);
            Check.due("Promise 29: told " + told + " times", z.which(0), told < 1 || told > 40 ? -1 : 2);
            Check.feedNotes(z, notes);
            Check.due("Promise 20: " + told + " notes", z.song(0), told < 1 ? -2 : 0);
            Check.due("Promise 21: the last one", z.songAt(told - 1), told < 1 ? -1 : 0);
            Check.due("Promise 21: one more", z.songAt(told), -1);
        }
    }

    /** Promises 21, 23, 25: ahead of any; the first, the last, one more; and what a later call that was none leaves. */
    private static void lists() {
        SingingSaw x = singing();
        for (int i = -1; i <= 1; i++) {
            Check.due("Promise 21: songAt(" + i + ") ahead of any", x.songAt(i), -1);
            Check.due("Promise 23: readAt(" + i + ") ahead of any", x.readAt(i), -1);
            Check.due("Promise 25: evenAt(" + i + ") ahead of any", x.evenAt(i), -1);
        }
        Check.feedNotes(x, 10, 2000);
        Check.due("Promise 20: no such row", x.song(0), -1);
        Check.due("Promise 21: songAt(0) ahead of any still", x.songAt(0), -1);
        Check.due("Promise 22: none", x.read(10, 201), -1);
        Check.due("Promise 23: readAt(0) ahead of any still", x.readAt(0), -1);
        Check.due("Promise 24: none", x.even(0, 1, 21), -1);
        Check.due("Promise 25: evenAt(0) ahead of any still", x.evenAt(0), -1);
        Check.feedNotes(x, 10, 15, 10);
        Check.due("Promise 20: a row", x.song(0), 800);
        Check.due("Promise 22: two", x.read(12, 3), 2);
        Check.due("Promise 24: twenty steps", x.even(0, 1, 20) >= 0, true);
        ends("Promise 21: songAt(i)", 0, 2, -1, i -> x.songAt(i));
        ends("Promise 23: readAt(k)", 0, 1, -1, k -> x.readAt(k));
        ends("Promise 25: evenAt(i)", 0, 20, -1, i -> x.evenAt(i));
        // A shorter row leaves nothing of a longer one, an empty one is one, too.
        Check.feedNotes(x, 15);
        Check.due("Promise 20: a shorter row", x.song(0), 0);
        Check.due("Promise 21: its BEND", x.songAt(0), 1);
        Check.due("Promise 21: nothing behind it", x.songAt(1), -1);
        Check.due("Promise 22: one", x.read(15, 0), 1);
        Check.due("Promise 23: it", x.readAt(0), 1);
        Check.due("Promise 23: nothing behind it", x.readAt(1), -1);
        Check.due("Promise 22: no BEND", x.read(2000, 0), 0);
        Check.due("Promise 23: nothing at all", x.readAt(0), -1);
        Check.due("Promise 24: one step", x.even(1, 1, 1), 0);
        ends("Promise 25: evenAt(i) of one step", 0, 1, -1, i -> x.evenAt(i));
        for (int slip = -1; slip <= 201; slip += 202) {
            Check.feedNotes(x, 10, 10);
            Check.due("Promise 20: not as told", x.song(slip), -2);
            Check.due("Promise 21: songAt(0) stays", x.songAt(0), 1);
            Check.due("Promise 21: songAt(1) stays", x.songAt(1), -1);
            Check.due("Promise 22: not as told", x.read(15, slip), -1);
            Check.due("Promise 23: readAt(0) stays", x.readAt(0), -1);
        }
    }

    /** Promises 27, 28. */
    private static void shelves() {
        for (int k = 0; k < 4; k++) {
            SingingSaw x = new SingingSaw();
            Check.due("Promise 27: keep(" + k + ")", x.keep(k), true);
            for (int other = 0; other < 4; other++) {
                Check.due("Promise 28: take(" + other + ")", x.take(other), other == k);
            }
        }
        SingingSaw x = new SingingSaw();
        ends("Promise 27: keep(k)", 0, 3, 0, k -> bit(x.keep(k)));
        ends("Promise 28: take(k)", 0, 3, 0, k -> bit(x.take(k)));
        Check.due("Promise 28: nothing is there", x.take(1), false);
    }

    /** Promises 30, 31, 32. */
    private static void thick() {
        SingingSaw x = new SingingSaw();
        Check.due("Promise 31: ahead of any", x.formBy(), -1);
        ends("Promise 32: forge(s, 5)", 1, 20, 0, s -> bit(x.forge(s, 5)));
        ends("Promise 32: forge(5, e)", 1, 20, 0, e -> bit(x.forge(5, e)));
        Check.due("Promise 30: an empty BOOK", x.form(5, 6), -2);
        Check.due("Promise 31: ahead of any still", x.formBy(), -1);
        x.write(0, 0);
        for (int low = -1; low <= 22; low++) {
            for (int high = low - 1; high <= low + 7; high++) {
                boolean isTold = low >= 1 && high <= 20 && high >= low && high <= low + 5;
                Check.due("Promise 30: form(" + low + ", " + high + ")", x.form(low, high), isTold ? 101 * low : -2);
            }
        }
        Check.due("Promise 31: RANGE of one without a VOICE", x.formBy(), -1);
        Check.due("Promise 30: form(1, MAX)", x.form(1, MAX), -2);
        Check.due("Promise 30: form(MIN, 5)", x.form(MIN, 5), -2);
        Check.due("Promise 30: form(MAX, MIN)", x.form(MAX, MIN), -2);
    }

    /** Promise 34. */
    private static void saying() {
        SingingSaw x = new SingingSaw();
        for (int k : new int[] {-2, -1, 0, 1, MIN, MAX}) {
            Check.due("Promise 34: said(" + k + ") without a SENTENCE", x.said(k), -1);
        }
        Check.hand(x, "wait 3;");
        Check.due("Promise 34: said(-1) without a SENTENCE, with a HAND", x.said(-1), -1);
        Check.due("Promise 34: said(0) without a SENTENCE, with a HAND", x.said(0), -1);
        Check.sentence(x, "tick>1");
        Check.due("Promise 34: said(-1)", x.said(-1), 2);
        ends("Promise 34: said(k)", 0, 1, -1, k -> k == -1 ? -1 : x.said(k));
        Check.due("Promise 34: said(-2)", x.said(-2), -1);
        Check.due("Promise 34: the first TICK", x.said(0), 2);
        Check.due("Promise 34: the last TICK", x.said(1), 3);
        Check.sentence(x, "tick<1");
        Check.due("Promise 34: in none", x.said(-1), 0);
        Check.due("Promise 34: none of them", x.said(0), -1);
        Check.hand(x, "wait 99;wait 99;wait 2;");
        Check.sentence(x, "tick>0");
        Check.due("Promise 34: in all", x.said(-1), 200);
        ends("Promise 34: said(k) of 200", 0, 199, -1, k -> k == -1 ? -1 : x.said(k));
        Check.sentence(x, "tick>199");
        Check.due("Promise 34: the last of 200 alone", x.said(0), 200);
    }

    /** Promises 35, 36. */
    private static void images() {
        SingingSaw x = new SingingSaw();
        Check.due("Promise 36: nothing is kept in 0", x.restore(0), false);
        Check.due("Promise 36: nothing is kept in 1", x.restore(1), false);
        ends("Promise 35: image(k)", 0, 1, 0, k -> bit(x.image(k)));
        ends("Promise 36: restore(k)", 0, 1, 0, k -> bit(x.restore(k)));
        for (int k = 0; k < 2; k++) {
            SingingSaw y = new SingingSaw();
            Check.due("Promise 35: image(" + k + ")", y.image(k), true);
            Check.due("Promise 36: restore(" + (1 - k) + ")", y.restore(1 - k), false);
            Check.due("Promise 36: restore(" + k + ")", y.restore(k), true);
        }
    }

    /** Promise 37. */
    private static void counts() {
        SingingSaw x = new SingingSaw();
        ends("Promise 37: count(what)", 0, 5, -1, what -> x.count(what));
        int[] least = {3, 1, 1, 0, 0, 0};
        Check.blade(x, "piece 3 1 1;unit 1;bear 1;");
        for (int what = 0; what <= 5; what++) {
            Check.due("Promise 37: count(" + what + ") of the least", x.count(what), least[what]);
        }
        int[] most = {60, 9999, 9999, 200, 40, 540};
        Check.blade(x, "piece 60 1 1;unit 9999;bear 9999;");
        Check.hand(x, "wait 99;wait 99;wait 2;");
        for (int k = 0; k < 41; k++) {
            x.write(0, 0);
        }
        for (int i = 0; i < 28; i++) {
            x.feed(1, 2, 3, 4, 5);
        }
        for (int what = 0; what <= 5; what++) {
            Check.due("Promise 37: count(" + what + ") of the most", x.count(what), most[what]);
        }
        ends("Promise 37: count(what) of the most", 0, 5, -1, what -> x.count(what));
    }
}
