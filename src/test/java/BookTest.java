/** Promises 17 (write), 18 (voice), 19 (range), 20 (song), 21 (songAt), 22 (read), 23 (readAt), 24 (even), 25 (evenAt), 26 (tremble). */
public final class BookTest {
    private static final String BLADE = "piece 5 10 10;unit 10;";
    private static final int[][] BENDS = {{400, -400}, {800, -400}, {400, 400}, {200, -200}, {-400, 400}, {400, -800}};
    private static final int[] VOICES = {10, 15, 0, 10, 10, 15};
    private static final int[] PIECES = {2, 3, 99, 2, 2, 1};

    public static void main(String[] args) {
        writing();
        voices();
        ranges();
        songs();
        wrongSongs();
        longSong();
        reading();
        evens();
        trembling();
        Check.finish("BookTest");
    }

    private static SingingSaw withBook() {
        SingingSaw x = new SingingSaw();
        Check.blade(x, BLADE);
        for (int k = 0; k < BENDS.length; k++) {
            Check.due("write " + k, x.write(BENDS[k][0], BENDS[k][1]), k);
        }
        return x;
    }

    private static int voiceOf(String blade, int a, int b) {
        SingingSaw x = new SingingSaw();
        Check.blade(x, blade);
        return x.voice(x.write(a, b), 0);
    }

    /** Promise 17: 40 BENDS and a 41st. */
    private static void writing() {
        SingingSaw x = new SingingSaw();
        Check.due("write(10000, 0)", x.write(10000, 0), -1);
        Check.due("write(0, -10000)", x.write(0, -10000), -1);
        for (int k = 0; k < 40; k++) {
            Check.due("write " + k, x.write(9999, -9999), k);
        }
        Check.due("a 41st", x.write(0, 0), -1);
        Check.due("a 42nd", x.write(0, 0), -1);
        Check.due("count(4)", x.count(4), 40);
    }

    /** Promise 18: each what of each BEND, and one outside on each side. */
    private static void voices() {
        SingingSaw x = withBook();
        for (int k = 0; k < BENDS.length; k++) {
            Check.due("voice(" + k + ", 0)", x.voice(k, 0), VOICES[k]);
            Check.due("voice(" + k + ", 1)", x.voice(k, 1), PIECES[k]);
            Check.due("voice(" + k + ", 2)", x.voice(k, 2), -1);
            Check.due("voice(" + k + ", -1)", x.voice(k, -1), -1);
        }
        for (int k : new int[] {-1, 6, 40, Integer.MAX_VALUE, Integer.MIN_VALUE}) {
            Check.due("voice(" + k + ", 0)", x.voice(k, 0), -1);
            Check.due("voice(" + k + ", 1)", x.voice(k, 1), -1);
        }
        // The BOOK stays with a new BLADE, and its VOICES are the new one's.
        Check.blade(x, "piece 5 10 10;unit 20;");
        Check.due("voice(0, 0) with unit 20", x.voice(0, 0), 20);
        Check.due("one more", x.write(400, -400), 6);
        Check.due("its voice", x.voice(6, 0), 20);
        x.forge(9, 9);
        Check.due("its voice, forged", x.voice(6, 0), voiceOf("piece 5 10 9;unit 20;", 400, -400));
    }

    /** Promise 19: the first of like ones; an empty BOOK, one without a VOICE. */
    private static void ranges() {
        SingingSaw x = withBook();
        int[] range = {10, 15, 0, 1};
        for (int what = 0; what < 4; what++) {
            Check.due("range(" + what + ")", x.range(what), range[what]);
        }
        for (int what : new int[] {-1, 4, Integer.MAX_VALUE, Integer.MIN_VALUE}) {
            Check.due("range(" + what + ")", x.range(what), -1);
        }
        x = new SingingSaw();
        Check.blade(x, BLADE);
        for (int what = -1; what < 5; what++) {
            Check.due("range(" + what + ") of an empty book", x.range(what), -1);
        }
        x.write(400, 400);
        for (int what = -1; what < 5; what++) {
            Check.due("range(" + what + ") without a voice", x.range(what), -1);
        }
        x.write(400, -800);
        x.write(400, -400);
        x.write(800, -400);
        x.write(200, -200);
        int[] other = {10, 15, 2, 1};
        for (int what = 0; what < 4; what++) {
            Check.due("range(" + what + "), the first ones", x.range(what), other[what]);
        }
    }

    private static void song(SingingSaw x, int slip, int[] notes, int moved, int... row) {
        Check.feedNotes(x, notes);
        String call = "song(" + slip + ") of " + java.util.Arrays.toString(notes);
        Check.due(call, x.song(slip), moved);
        Check.due("the tape behind it", x.count(5), 0);
        for (int i = 0; i < row.length; i++) {
            Check.due("songAt(" + i + ") of " + call, x.songAt(i), row[i]);
        }
        Check.due("songAt(" + row.length + ") of " + call, x.songAt(row.length), -1);
        Check.due("songAt(-1)", x.songAt(-1), -1);
    }

    /** Promises 20, 21: the least sum, the first of like rows, no such row. */
    private static void songs() {
        SingingSaw x = withBook();
        song(x, 0, new int[] {10}, 0, 0);
        song(x, 0, new int[] {15}, 0, 1);
        song(x, 0, new int[] {10, 15}, 400, 0, 1);
        song(x, 0, new int[] {15, 10, 15}, 800, 1, 0, 1);
        song(x, 5, new int[] {10, 15, 10}, 0, 0, 0, 0);
        song(x, 0, new int[] {10, 10, 15, 15}, 400, 0, 0, 1, 1);
        song(x, 2, new int[] {12, 17}, 400, 0, 1);
        song(x, 200, new int[] {200, 210}, 0, 0, 0);
        // Nothing fits: the row of the latest song stays.
        song(x, 1, new int[] {12}, -1, 0, 0);
        song(x, 0, new int[] {10, 11}, -1, 0, 0);
        // Without a VOICE a BEND plays nothing, however low the note.
        x = new SingingSaw();
        x.write(0, 0);
        song(x, 200, new int[] {1}, -1);
        // A detour at first may be the least in the end, and of like rows the lesser first note counts.
        x = new SingingSaw();
        Check.blade(x, BLADE);
        x.write(-400, 400);
        x.write(400, -400);
        x.write(800, -400);
        song(x, 0, new int[] {10, 15}, 400, 1, 2);
        song(x, 0, new int[] {10, 10}, 0, 0, 0);
        song(x, 0, new int[] {10, 10, 15}, 400, 1, 1, 2);
        x.write(-800, 400);
        song(x, 0, new int[] {10, 15}, 400, 0, 3);
        song(x, 0, new int[] {15, 10, 15}, 800, 2, 1, 2);
    }

    /** Promises 20, 21: notes and SLIP not as told; the tape is empty, the latest row stays. */
    private static void wrongSongs() {
        SingingSaw x = withBook();
        song(x, 0, new int[] {10, 15}, 400, 0, 1);
        song(x, -1, new int[] {10}, -2, 0, 1);
        song(x, 201, new int[] {10}, -2, 0, 1);
        song(x, Integer.MIN_VALUE, new int[] {10}, -2, 0, 1);
        song(x, 0, new int[] {}, -2, 0, 1);
        song(x, 0, new int[] {0}, -2, 0, 1);
        song(x, 0, new int[] {10, 2001}, -2, 0, 1);
        song(x, 0, new int[] {10, 65535}, -2, 0, 1);
        song(x, 0, new int[] {10, 2000}, -1, 0, 1);
        song(x, 0, new int[61], -2, 0, 1);
        Check.feedNotes(x, 10, 15);
        x.end(3);
        Check.due("an odd byte", x.song(0), -2);
        Check.due("the tape behind it", x.count(5), 0);
    }

    /** Promises 20, 21: 60 notes and 61. */
    private static void longSong() {
        SingingSaw x = withBook();
        int[] notes = new int[60];
        int[] row = new int[60];
        for (int i = 0; i < 60; i++) {
            notes[i] = i % 2 == 0 ? 10 : 15;
            row[i] = i % 2;
        }
        song(x, 0, notes, 59 * 400, row);
        int[] more = java.util.Arrays.copyOf(notes, 61);
        more[60] = 10;
        song(x, 0, more, -2, row);
        song(x, 0, new int[] {10}, 0, 0);
    }

    private static void read(SingingSaw x, int tone, int slip, int answer, int... row) {
        Check.due("read(" + tone + ", " + slip + ")", x.read(tone, slip), answer);
        for (int k = 0; k < row.length; k++) {
            Check.due("readAt(" + k + ") of read(" + tone + ", " + slip + ")", x.readAt(k), row[k]);
        }
        Check.due("readAt(" + row.length + ")", x.readAt(row.length), -1);
        Check.due("readAt(-1)", x.readAt(-1), -1);
    }

    /** Promises 22, 23: tone and SLIP at their ends, and one outside on each side. */
    private static void reading() {
        SingingSaw x = withBook();
        read(x, 10, 0, 3, 0, 3, 4);
        read(x, 12, 1, 0);
        read(x, 12, 2, 3, 0, 3, 4);
        read(x, 13, 2, 2, 1, 5);
        read(x, 12, 3, 5, 0, 1, 3, 4, 5);
        read(x, 1, 200, 5, 0, 1, 3, 4, 5);
        read(x, 2000, 200, 0);
        read(x, 215, 200, 2, 1, 5);
        read(x, 0, 200, -1, 1, 5);
        read(x, 2001, 200, -1, 1, 5);
        read(x, 10, -1, -1, 1, 5);
        read(x, 10, 201, -1, 1, 5);
        read(x, Integer.MIN_VALUE, 5, -1, 1, 5);
        read(x, Integer.MAX_VALUE, 5, -1, 1, 5);
        // What was read stays as it was told, with another BLADE too.
        Check.blade(x, "piece 3 9 9;");
        Check.due("readAt(1) later", x.readAt(1), 5);
        read(x, 10, 0, 0);
        x = new SingingSaw();
        read(x, 5, 0, 0);
    }

    private static void even(String blade, int a, int b, int toA, int toB, int n) {
        SingingSaw x = new SingingSaw();
        Check.blade(x, blade);
        x.write(a, b);
        x.write(toA, toB);
        int[] voices = new int[101];
        for (int part = 0; part <= 100; part++) {
            voices[part] = voiceOf(blade, a + (toA - a) * part / 100, b + (toB - b) * part / 100);
        }
        int[] parts = new int[n + 1];
        int widest = 0;
        for (int i = 0; i <= n; i++) {
            int wanted = voices[0] + (voices[100] - voices[0]) * i / n;
            for (int part = 100; part >= 0; part--) {
                if (voices[part] > 0 && Math.abs(voices[part] - wanted) <= Math.abs(voices[parts[i]] - wanted)) {
                    parts[i] = part;
                }
            }
            widest = i > 0 ? Math.max(widest, Math.abs(parts[i] - parts[i - 1])) : 0;
        }
        Check.due("even(0, 1, " + n + ") from " + a + ", " + b, x.even(0, 1, n), widest);
        for (int i = 0; i <= n; i++) {
            Check.due("evenAt(" + i + ")", x.evenAt(i), parts[i]);
        }
        Check.due("evenAt(n + 1)", x.evenAt(n + 1), -1);
        Check.due("evenAt(-1)", x.evenAt(-1), -1);
        Check.due("even(0, 0, 20)", x.even(0, 0, 20), 0);
        Check.due("evenAt(20)", x.evenAt(20), 0);
        Check.due("evenAt(21)", x.evenAt(21), -1);
    }

    /** Promises 24, 25: the least PART of like ones; BENDS and steps outside on each side. */
    private static void evens() {
        even(BLADE, 400, -400, 800, -400, 1);
        even(BLADE, 400, -400, 800, -400, 3);
        even(BLADE, 800, -400, -400, 400, 20);
        even(BLADE, 200, -200, 400, -800, 7);
        even("piece 20 60 5;unit 60;bear 9999;", 2500, -2000, 900, -2500, 12);
        even("piece 20 60 5 own -3;unit 60;bear 9999;", -2500, 1900, -800, 2500, 20);
        SingingSaw x = withBook();
        Check.due("even(0, 1, 4)", x.even(0, 1, 4) >= 0, true);
        int second = x.evenAt(1);
        int[][] wrong = {{0, 2, 4}, {2, 0, 4}, {2, 2, 4}, {0, 6, 4}, {6, 0, 4}, {-1, 0, 4}, {0, -1, 4}, {0, 1, 0}, {0, 1, 21}, {0, 1, -1},
            {Integer.MAX_VALUE, 0, 1}, {0, Integer.MIN_VALUE, 1}, {0, 0, Integer.MIN_VALUE}, {0, 0, Integer.MAX_VALUE}};
        for (int[] w : wrong) {
            Check.due("even(" + w[0] + ", " + w[1] + ", " + w[2] + ")", x.even(w[0], w[1], w[2]), -1);
            Check.due("evenAt(1) stays", x.evenAt(1), second);
            Check.due("evenAt(5) stays", x.evenAt(5), -1);
        }
    }

    private static void tremble(SingingSaw x, String blade, int a, int b, int j) {
        int[] v = {voiceOf(blade, a, Math.max(-9999, b - j)), voiceOf(blade, a, b), voiceOf(blade, a, Math.min(9999, b + j))};
        java.util.Arrays.sort(v);
        Check.due("tremble(" + a + ", " + b + ", " + j + ")", x.tremble(a, b, j), v[0] == 0 ? -1 : v[2] - v[0]);
    }

    /** Promise 26: J at its ends, and one outside on each side; 9999 either way at most. */
    private static void trembling() {
        SingingSaw x = new SingingSaw();
        String blade = "piece 20 60 5;unit 60;bear 9999;";
        Check.blade(x, blade);
        for (int j = 0; j <= 999; j += 111) {
            tremble(x, blade, 2500, -2000, j);
            tremble(x, blade, 900, -500, j);
            tremble(x, blade, -700, 300, j);
        }
        Check.due("a tremble of its own", x.tremble(2500, -2000, 999) > 0, true);
        Check.due("tremble(2500, -2000, 1000)", x.tremble(2500, -2000, 1000), -1);
        Check.due("tremble(2500, -2000, -1)", x.tremble(2500, -2000, -1), -1);
        Check.due("tremble(2500, -2000, MIN)", x.tremble(2500, -2000, Integer.MIN_VALUE), -1);
        Check.due("tremble without a voice", x.tremble(0, 0, 0), -1);
        Check.due("no tremble but a voice", x.tremble(2500, -2000, 0), 0);
        String stiff = "piece 7 90 9;unit 30;bear 9999;";
        Check.blade(x, stiff);
        tremble(x, stiff, -9000, 9990, 500);
        tremble(x, stiff, 9000, -9990, 500);
        Check.due("a tremble at the edge", x.tremble(9000, -9990, 999) >= 0, true);
    }
}
