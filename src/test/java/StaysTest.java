/**
 * What a call leaves as it is: all promises, and of the Terms "A new BLADE leaves HAND, BOOK, SHELF, SENTENCE as they are.
 * A call that throws changes nothing." Each call is made on one of two saws that are alike; then all that both tell is
 * compared, but for what the document changes.
 */
public final class StaysTest {
    private static final int MIN = Integer.MIN_VALUE;
    private static final int MAX = Integer.MAX_VALUE;
    // What another BLADE, another HAND, another BOOK lets sing differently.
    private static final String[] OF_BLADE = {"blade", "voices"};
    private static final String[] OF_HAND = {"hand", "voices", "fault"};

    private interface Call {
        long on(SingingSaw x);
    }

    private interface Step {
        void on(SingingSaw x);
    }

    public static void main(String[] args) {
        refusedTapes();
        refusedTexts();
        throwing();
        refusedBends();
        refusedLists();
        refusedBooks();
        refusedShelves();
        asking();
        taken();
        newBlades();
        emptied();
        newObjects();
        Check.finish("StaysTest");
    }

    private static void call(String name, Step ahead, Call call, long answer, Step alike, String... mayDiffer) {
        SingingSaw x = Probe.rich();
        SingingSaw y = Probe.rich();
        ahead.on(x);
        ahead.on(y);
        Check.due(name, call.on(x), answer);
        alike.on(y);
        Probe.same(name, x, y, mayDiffer);
    }

    /** A call that changes nothing at all. */
    private static void idle(String name, Call call, long answer) {
        call(name, x -> { }, call, answer, y -> { });
    }

    private static long bit(boolean b) {
        return b ? 1 : 0;
    }

    /** Promises 2, 3. */
    private static void refusedTapes() {
        for (int n : new int[] {35, MAX, -1, MIN}) {
            idle("Promise 3: end(" + n + ")", x -> bit(x.end(n)), 0);
        }
        Step full = x -> {
            while (x.count(5) < 521) {
                x.feed(0x20202020, 0x20202020, 0x20202020, 0x20202020, 0x20202020);
            }
            x.end(521);
        };
        // No byte comes, though there is room for 19: the tape is cut to what was on it ahead, and that is told.
        call("Promise 2: feed beyond 540", full, x -> {
            int answer = x.feed(-1, -1, -1, -1, -1);
            Check.due("Promise 2: bytes of the tape", x.count(5), 521);
            x.end(Probe.TAPE_TEXT.length());
            return answer;
        }, -1, y -> y.end(Probe.TAPE_TEXT.length()));
        call("Promise 2: feed beyond 540, what is behind", full, x -> x.feed(-1, -1, -1, -1, -1), -1, y -> { });
    }

    private static void text(String name, String text, Call reader, int place, int kind) {
        Step ahead = x -> {
            x.end(0);
            Check.feed(x, text);
        };
        // The tape is empty then, with a FAULT, too: as if it had been cut to nothing.
        call(name, ahead, x -> {
            long answer = reader.on(x);
            Check.due(name + ": fault()", x.fault(), kind);
            Check.due(name + ": the tape", x.count(5), 0);
            return answer;
        }, -1 - place, y -> y.end(0), "fault");
    }

    /** Promises 4, 5, 15, 33: with a FAULT the BLADE, the HAND, the SENTENCE stays. */
    private static void refusedTexts() {
        text("Promise 4: no text", "", SingingSaw::blade, 0, 1);
        text("Promise 4: FAULT 1", "piece 5 9 9;unit 9;bear 9", SingingSaw::blade, 25, 1);
        text("Promise 4: FAULT 1 behind all", "piece 5 9 9;unit 9;bear 9;?", SingingSaw::blade, 26, 1);
        text("Promise 4: two PIECES", "piece 2 9 9;unit 9;bear 9;", SingingSaw::blade, 26, 1);
        text("Promise 4: FAULT 2", "piece 5 9 9;unit 9;bear 0;", SingingSaw::blade, 24, 2);
        text("Promise 4: FAULT 3", "piece 5 9 9;unit 9;bear 9;unit 9;", SingingSaw::blade, 26, 3);
        text("Promise 4: FAULT 4", "piece 60 9 9;unit 9;bear 9;piece 1 1 1;", SingingSaw::blade, 33, 4);
        text("Promise 4: too long", "piece 5 9 9;" + " ".repeat(489), SingingSaw::blade, 500, 1);
        text("Promise 15: FAULT 1", "wait 5;at 5;", SingingSaw::hand, 11, 1);
        text("Promise 15: FAULT 1 behind all", "wait 5;wait 5;;", SingingSaw::hand, 14, 1);
        text("Promise 15: FAULT 2", "wait 5;wait 100;", SingingSaw::hand, 12, 2);
        text("Promise 15: FAULT 4", "wait 99;wait 99;wait 3;", SingingSaw::hand, 21, 4);
        text("Promise 15: too long", "wait 5;" + " ".repeat(294), SingingSaw::hand, 300, 1);
        text("Promise 33: no text", "", SingingSaw::sentence, 0, 1);
        text("Promise 33: FAULT 1", "tick>0 and", SingingSaw::sentence, 10, 1);
        text("Promise 33: FAULT 1 behind all", "tick>0;", SingingSaw::sentence, 6, 1);
        text("Promise 33: a 21st ONE", "tick>0" + " or sings".repeat(20), SingingSaw::sentence, 6 + 19 * 9 + 4, 4);
        text("Promise 33: a ninth within", "tick>0 or" + "(".repeat(9), SingingSaw::sentence, 17, 4);
        text("Promise 33: too long", "tick>0" + " ".repeat(195), SingingSaw::sentence, 200, 1);
    }

    /** Terms: "A call that throws changes nothing." Promises 6, 7, 16. */
    private static void throwing() {
        int[][] pieces = {{-1, 0}, {8, 0}, {MIN, 4}, {MAX, 4}, {0, -1}, {0, 5}, {7, MIN}, {7, MAX}};
        for (int[] p : pieces) {
            idle("Promise 6: piece(" + p[0] + ", " + p[1] + ")", x -> Check.piece(x, p[0], p[1]), Check.THROWN);
        }
        int[][] bends = {{10000, 0, 0, 0}, {-10000, 0, 0, 1}, {0, 10000, 0, 0}, {0, -10000, 0, 1}, {0, 0, -1, 0}, {0, 0, 8, 0}, {0, 0, 0, -1}, {0, 0, 0, 2}};
        for (int[] b : bends) {
            idle("Promise 7: bend(" + b[0] + ", " + b[1] + ", " + b[2] + ", " + b[3] + ")",
                x -> Check.bend(x, b[0], b[1], b[2], b[3]), Check.THROWN);
        }
        int[][] ticks = {{0, 0}, {6, 0}, {-1, 2}, {MIN, 0}, {MAX, 4}, {1, -1}, {5, 5}, {5, MAX}};
        for (int[] t : ticks) {
            idle("Promise 16: tick(" + t[0] + ", " + t[1] + ")", x -> Check.tick(x, t[0], t[1]), Check.THROWN);
        }
    }

    /** Promises 8, 9, 10, 13, 17, 26. */
    private static void refusedBends() {
        int[][] wrong = {{10000, 0}, {-10000, 0}, {0, 10000}, {0, -10000}};
        for (int[] w : wrong) {
            String bend = w[0] + ", " + w[1];
            idle("Promise 8: breaks(" + bend + ")", x -> x.breaks(w[0], w[1]), -2);
            idle("Promise 9: place(" + bend + ", -1)", x -> x.place(w[0], w[1], -1), -1);
            idle("Promise 10: tone(" + bend + ", 0, 0)", x -> x.tone(w[0], w[1], 0, 0), -1);
            idle("Promise 13: where(" + bend + ", 0, 0, 1)", x -> x.where(w[0], w[1], 0, 0, 1), -1);
            idle("Promise 17: write(" + bend + ")", x -> x.write(w[0], w[1]), -1);
            idle("Promise 26: tremble(" + bend + ", 1)", x -> x.tremble(w[0], w[1], 1), -1);
        }
        idle("Promise 9: place(1500, -1200, 1)", x -> x.place(1500, -1200, 1), -1);
        idle("Promise 10: no such PLACE", x -> x.tone(1500, -1200, 1, 0), -1);
        idle("Promise 10: PLACE -1", x -> x.tone(1500, -1200, -1, 0), -1);
        idle("Promise 10: -1 humps", x -> x.tone(1500, -1200, 0, -1), -1);
        idle("Promise 10: 6 humps", x -> x.tone(1500, -1200, 0, 6), -1);
        idle("Promise 10: BROKEN", x -> x.tone(9999, -9999, 0, 0), -1);
        idle("Promise 13: no such PLACE", x -> x.where(1500, -1200, 1, 1, 0), -1);
        idle("Promise 13: 6 humps", x -> x.where(1500, -1200, 0, 6, 0), -1);
        idle("Promise 13: but not 6 humps", x -> x.where(1500, -1200, 0, 1, 6), -1);
        idle("Promise 13: but not -1 humps", x -> x.where(1500, -1200, 0, 1, -1), -1);
        idle("Promise 13: BROKEN", x -> x.where(9999, -9999, 0, 1, 0), -1);
        Step high = x -> {
            x.end(0);
            Check.blade(x, "piece 8 60 5;unit 9999;bear 9999;");
            Check.feed(x, Probe.TAPE_TEXT);
        };
        call("Promise 13: the first TONE alone is there", high, x -> x.where(9000, -9000, 0, 0, 5), -1, y -> { });
        call("Promise 13: the second TONE alone is there", high, x -> x.where(9000, -9000, 0, 5, 0), -1, y -> { });
        call("Promise 10: 2000 is not enough", high, x -> x.tone(9000, -9000, 0, 5), -1, y -> { });
        idle("Promise 26: tremble without a VOICE", x -> x.tremble(400, 300, 1), -1);
        idle("Promise 26: tremble by 1000", x -> x.tremble(1500, -1200, 1000), -1);
        idle("Promise 26: tremble by -1", x -> x.tremble(1500, -1200, -1), -1);
    }

    /** Promises 11, 12, 21, 23, 25, 18, 19, 34, 37. */
    private static void refusedLists() {
        for (int i : new int[] {-1, 8, MIN, MAX}) {
            idle("Promise 12: bow(" + i + ")", x -> x.bow(i), -1);
            idle("Promise 11: run(" + i + ")", x -> x.run(i), -1);
            idle("Promise 21: songAt(" + i + ")", x -> x.songAt(i), -1);
            idle("Promise 23: readAt(" + i + ")", x -> x.readAt(i), -1);
            idle("Promise 25: evenAt(" + i + ")", x -> x.evenAt(i), -1);
            idle("Promise 18: voice(" + i + ", 0)", x -> x.voice(i, 0), -1);
            idle("Promise 18: voice(0, " + i + ")", x -> x.voice(0, i), -1);
            idle("Promise 19: range(" + i + ")", x -> x.range(i), -1);
            idle("Promise 37: count(" + i + ")", x -> x.count(i), -1);
        }
        idle("Promise 11: run(5)", x -> x.run(5), -1);
        idle("Promise 21: songAt(3)", x -> x.songAt(3), -1);
        idle("Promise 23: readAt(3)", x -> x.readAt(3), -1);
        idle("Promise 25: evenAt(5)", x -> x.evenAt(5), -1);
        idle("Promise 18: voice(7, 0)", x -> x.voice(7, 0), -1);
        idle("Promise 18: voice(0, 2)", x -> x.voice(0, 2), -1);
        idle("Promise 19: range(4)", x -> x.range(4), -1);
        idle("Promise 37: count(6)", x -> x.count(6), -1);
        idle("Promise 34: said(-2)", x -> x.said(-2), -1);
        idle("Promise 34: said(5)", x -> x.said(5), -1);
    }

    private static void tape(String name, Step ahead, Call call, int answer) {
        call(name, x -> {
            x.end(0);
            ahead.on(x);
        }, x -> {
            long got = call.on(x);
            Check.due(name + ": the tape", x.count(5), 0);
            return got;
        }, answer, y -> y.end(0));
    }

    /** Promises 17, 20, 22, 24, 29: the tape of song() and which() is empty then, and nothing else is changed. */
    private static void refusedBooks() {
        tape("Promise 20: no note", x -> { }, x -> x.song(0), -2);
        tape("Promise 20: note 0", x -> Check.feedNotes(x, 41, 0), x -> x.song(0), -2);
        tape("Promise 20: note 2001", x -> Check.feedNotes(x, 41, 2001), x -> x.song(0), -2);
        tape("Promise 20: an odd byte", x -> Check.feed(x, "\0\51\0"), x -> x.song(0), -2);
        tape("Promise 20: SLIP 201", x -> Check.feedNotes(x, 41), x -> x.song(201), -2);
        tape("Promise 20: SLIP -1", x -> Check.feedNotes(x, 41), x -> x.song(-1), -2);
        tape("Promise 20: 61 notes", x -> Check.feedNotes(x, new int[61]), x -> x.song(0), -2);
        tape("Promise 20: no such row", x -> Check.feedNotes(x, 41, 2000), x -> x.song(0), -1);
        tape("Promise 29: nothing", x -> { }, x -> x.which(0), -1);
        tape("Promise 29: no BEND of the BOOK", x -> Check.feedTold(x, 0, 41, 7, 41), x -> x.which(0), -1);
        tape("Promise 29: tone 0", x -> Check.feedTold(x, 0, 0), x -> x.which(0), -1);
        tape("Promise 29: tone 2001", x -> Check.feedTold(x, 0, 2001), x -> x.which(0), -1);
        tape("Promise 29: two bytes", x -> Check.feed(x, "\0\0"), x -> x.which(0), -1);
        tape("Promise 29: SLIP 201", x -> Check.feedTold(x, 0, 41), x -> x.which(201), -1);
        tape("Promise 29: SLIP -1", x -> Check.feedTold(x, 0, 41), x -> x.which(-1), -1);
        idle("Promise 22: read by -1", x -> x.read(41, -1), -1);
        idle("Promise 22: read by 201", x -> x.read(41, 201), -1);
        idle("Promise 22: read of 0", x -> x.read(0, 5), -1);
        idle("Promise 22: read of 2001", x -> x.read(2001, 5), -1);
        idle("Promise 24: even in 0 steps", x -> x.even(2, 3, 0), -1);
        idle("Promise 24: even in 21 steps", x -> x.even(2, 3, 21), -1);
        idle("Promise 24: even from -1", x -> x.even(-1, 3, 1), -1);
        idle("Promise 24: even to 7", x -> x.even(2, 7, 1), -1);
        idle("Promise 24: even from one without a VOICE", x -> x.even(5, 2, 1), -1);
        idle("Promise 24: even to one without a VOICE", x -> x.even(2, 5, 1), -1);
        Step full = x -> {
            for (int k = x.count(4); k < 40; k++) {
                x.write(400, 300);
            }
        };
        call("Promise 17: a 41st BEND", full, x -> x.write(1500, -1200), -1, y -> { });
    }

    /** Promises 27, 28, 30, 31, 32, 35, 36. */
    private static void refusedShelves() {
        for (int k : new int[] {-1, 4, MIN, MAX}) {
            idle("Promise 27: keep(" + k + ")", x -> bit(x.keep(k)), 0);
            idle("Promise 28: take(" + k + ")", x -> bit(x.take(k)), 0);
        }
        idle("Promise 28: take(3) of nothing", x -> bit(x.take(3)), 0);
        for (int k : new int[] {-1, 2, MIN, MAX}) {
            idle("Promise 35: image(" + k + ")", x -> bit(x.image(k)), 0);
            idle("Promise 36: restore(" + k + ")", x -> bit(x.restore(k)), 0);
        }
        idle("Promise 36: restore(1) of nothing", x -> bit(x.restore(1)), 0);
        int[][] forms = {{0, 5}, {16, 21}, {1, 7}, {MIN, MAX}, {21, 21}, {0, 0}};
        for (int[] f : forms) {
            idle("Promise 30: form(" + f[0] + ", " + f[1] + ")", x -> x.form(f[0], f[1]), -2);
        }
        Step weak = x -> {
            x.end(0);
            Check.blade(x, "piece 8 60 5;bear 1;");
            Check.feed(x, Probe.TAPE_TEXT);
        };
        call("Promise 30: all FORMS break", weak, x -> x.form(3, 5), -1, y -> { });
        int[][] forges = {{0, 5}, {5, 0}, {21, 5}, {5, 21}, {MIN, 5}, {5, MAX}};
        for (int[] f : forges) {
            idle("Promise 32: forge(" + f[0] + ", " + f[1] + ")", x -> bit(x.forge(f[0], f[1])), 0);
        }
    }

    /** Calls that answer and change nothing, or no more than what the document says that they tell last. */
    private static void asking() {
        idle("Promise 5: fault()", x -> x.fault(), 2);
        idle("Promise 6: piece(7, 4)", x -> x.piece(7, 4), 57 * 125);
        idle("Promise 7: bend(9999, -9999, 0, 0)", x -> x.bend(9999, -9999, 0, 0), 1333);
        idle("Promise 8: breaks(9999, -9999)", x -> x.breaks(9999, -9999), 0);
        idle("Promise 9: place(1500, -1200, 0)", x -> x.place(1500, -1200, 0), 4);
        idle("Promise 11: run(4)", x -> x.run(4), 249);
        idle("Promise 16: tick(3, 2)", x -> x.tick(3, 2), 59);
        idle("Promise 18: voice(6, 0)", x -> x.voice(6, 0), 59);
        idle("Promise 19: range(1)", x -> x.range(1), 59);
        idle("Promise 26: tremble(1500, -1200, 0)", x -> x.tremble(1500, -1200, 0), 0);
        idle("Promise 34: said(-1)", x -> x.said(-1) > 0 ? 1 : 0, 1);
        idle("Promise 37: count(5)", x -> x.count(5), 34);
        call("Promises 10, 11, 12: tone()", x -> { }, x -> x.tone(1500, -1200, 0, 0), 41, y -> { }, "run", "bow");
        call("Promises 13, 14: where()", x -> { }, x -> bit(x.where(2600, -1400, 0, 1, 0) >= 0), 1, y -> { }, "worth");
        call("Promises 22, 23: read()", x -> { }, x -> x.read(59, 0), 1, y -> { }, "readAt");
        call("Promises 24, 25: even()", x -> { }, x -> bit(x.even(2, 3, 1) >= 0), 1, y -> { }, "evenAt");
        call("Promises 30, 31: form()", x -> { }, x -> bit(x.form(6, 6) > 0), 1, y -> { }, "formBy");
        call("Promises 20, 21: song()", x -> {
            x.end(0);
            Check.feedNotes(x, 59);
        }, x -> x.song(0), 0, y -> y.end(0), "songAt");
        tape("Promise 29: which()", x -> Check.feedTold(x, 2, 2000), x -> x.which(0), 0);
    }

    /** Calls that change one thing alone. */
    private static void taken() {
        call("Promise 2: feed()", x -> { }, x -> x.feed(1, 2, 3, 4, 5), 54, y -> { }, "tape");
        call("Promise 3: end()", x -> { }, x -> bit(x.end(33)), 1, y -> { }, "tape");
        idle("Promise 3: end() of all", x -> bit(x.end(34)), 1);
        call("Promise 15: hand()", x -> { }, x -> x.hand(), 2, y -> y.end(0), OF_HAND);
        call("Promise 33: sentence()", x -> {
            x.end(0);
            Check.feed(x, "tick>1");
        }, x -> x.sentence(), 1, y -> y.end(0), "sentence", "voices", "fault");
        call("Promise 17: write()", x -> { }, x -> x.write(1, 1), 7, y -> { }, "book", "voices");
        call("Promise 27: keep()", x -> { }, x -> bit(x.keep(3)), 1, y -> { }, "shelf");
        call("Promise 35: image()", x -> { }, x -> bit(x.image(1)), 1, y -> { }, "images");
        call("Promise 35: image() anew", x -> { }, x -> bit(x.image(0)), 1, y -> { }, "images");
        call("Promise 36: restore()", x -> { }, x -> bit(x.restore(0)), 1, y -> { },
            "blade", "voices", "hand", "sentence", "book", "shelf");
        call("Promise 36: restore() of what is there now", x -> x.image(1), x -> bit(x.restore(1)), 1, y -> { });
        call("Promise 28: take() of what is there now", x -> x.keep(3), x -> bit(x.take(3)), 1, y -> { });
    }

    /** Terms: "A new BLADE leaves HAND, BOOK, SHELF, SENTENCE as they are." Promises 4, 28, 32. */
    private static void newBlades() {
        call("Promise 4: blade()", x -> {
            x.end(0);
            Check.feed(x, "piece 4 44 4;");
        }, x -> x.blade(), 4, y -> y.end(0), "blade", "voices", "fault");
        call("Promise 28: take()", x -> { }, x -> bit(x.take(2)), 1, y -> { }, OF_BLADE);
        call("Promise 32: forge()", x -> { }, x -> bit(x.forge(6, 4)), 1, y -> { }, OF_BLADE);
        // The BLADE lies on the SHELF and in an image, too: forged, it does so as it was.
        call("Promises 27, 35: forge() of what is kept", x -> {
            x.keep(3);
            x.image(1);
        }, x -> bit(x.forge(6, 4)), 1, y -> { }, OF_BLADE);
        call("Promise 30: form() of what is kept", x -> {
            x.keep(3);
            x.image(1);
        }, x -> bit(x.form(4, 6) > 0), 1, y -> { }, "formBy");
    }

    /** Terms: a HAND of no TICKS, and a SENTENCE that is so in none. Promises 15, 16, 34. */
    private static void emptied() {
        SingingSaw x = Probe.rich();
        x.end(0);
        Check.due("Promise 15: an empty text", x.hand(), 0);
        Check.due("Promise 5: it has no FAULT", x.fault(), 0);
        Check.due("Promise 37: no TICKS", x.count(3), 0);
        Check.due("Promise 16: tick(1, 0)", Check.tick(x, 1, 0), Check.THROWN);
        Check.due("Promise 16: tick(0, 0)", Check.tick(x, 0, 0), Check.THROWN);
        Check.due("Promise 34: said(-1)", x.said(-1), 0);
        Check.due("Promise 34: said(0)", x.said(0), -1);
        Check.sentence(x, "tick<1");
        Check.hand(x, "wait 3;");
        Check.due("Promise 34: said(-1) of what is never so", x.said(-1), 0);
        Check.due("Promise 34: said(0) of what is never so", x.said(0), -1);
    }

    /** Promise 1: refused calls leave a new object new. */
    private static void newObjects() {
        Call[] calls = {
            x -> x.blade(), x -> x.sentence(), x -> Check.piece(x, 3, 0), x -> Check.bend(x, 0, 0, 3, 0), x -> Check.tick(x, 1, 0),
            x -> x.breaks(10000, 0), x -> x.tone(0, 0, 1, 0), x -> x.where(0, 0, 1, 0, 0), x -> x.write(10000, 0), x -> x.song(0),
            x -> x.read(0, 0), x -> x.even(0, 0, 1), x -> x.tremble(0, 0, 0), x -> bit(x.keep(4)), x -> bit(x.take(0)), x -> x.which(0),
            x -> x.form(5, 5), x -> bit(x.forge(0, 0)), x -> x.said(-1), x -> bit(x.image(2)), x -> bit(x.restore(0)), x -> bit(x.end(1)),
        };
        for (int i = 0; i < calls.length; i++) {
            SingingSaw x = new SingingSaw();
            calls[i].on(x);
            // blade() and sentence() of no text have FAULT 1.
            Probe.same("Promise 1: a new object, refused call " + i, x, new SingingSaw(), i < 2 ? "fault" : "");
        }
    }
}
