import java.util.Arrays;
import java.util.Map;
import java.util.Set;
import java.util.TreeMap;
import java.util.TreeSet;

/**
 * All that can be asked of a saw, by what it tells of. Asking uses the saw up: its tape, BLADE, HAND, BOOK and SHELF are
 * other ones then. With what rich() makes ahead of it, it stays far below 512 calls.
 */
final class Probe {
    static final String TAPE_TEXT = "at 123 -456;wait 1;at -7 8;wait 1;";
    static final String BLADE = "piece 3 60 5;piece 2 55 5 own 4;piece 3 60 5 teeth 3;unit 40;bear 3000;";
    static final String HAND = "at 1500 -1200;wait 1;to 3100 -2900 in 2;shake 50 in 2;";
    static final String SENTENCE = "tone>45 or not sings";
    static final int[][] BENDS = {{1500, -1200}, {900, -2500}, {-2000, 700}, {400, 300}, {3100, -2900}};
    // With this BLADE the VOICES of those BENDS are unlike: 41, 61, 51, none, 63.
    private static final String OTHER_BLADE = "piece 9 50 5;unit 60;bear 9999;";
    private static final int[] OTHER_VOICES = {41, 61, 51, 0, 63};
    private static final String OTHER_HAND = "at 1500 -1200;wait 1;at 900 -2500;wait 1;at 0 0;wait 1;";

    private final SingingSaw x;
    private final Map<String, String> told = new TreeMap<>();

    private Probe(SingingSaw x) {
        this.x = x;
    }

    /** A saw with something everywhere: place 3 of the SHELF and place 1 of the images alone are empty. */
    static SingingSaw rich() {
        SingingSaw x = new SingingSaw();
        Check.blade(x, "piece 3 7 6;unit 11;bear 12;");
        x.keep(0);
        Check.blade(x, "piece 4 8 7 teeth 1 own -9;unit 13;bear 14;");
        x.keep(2);
        x.write(7, 8);
        Check.hand(x, "at 1 2;wait 3;");
        Check.sentence(x, "tick<3");
        x.image(0);
        Check.blade(x, "piece 3 9 8;unit 15;");
        x.keep(1);
        x.write(9, 9);
        bare(x);
        Check.due("rich: tone", x.tone(1500, -1200, 0, 1), 64);
        Check.due("rich: where", x.where(1500, -1200, 0, 0, 1) >= 0, true);
        Check.due("rich: read", x.read(41, 5), 3);
        Check.due("rich: even", x.even(2, 6, 4) >= 0, true);
        Check.feedNotes(x, 41, 59, 41);
        Check.due("rich: song", x.song(0) > 0, true);
        Check.due("rich: form", x.form(5, 6) > 0, true);
        Check.due("rich: wrong hand", Check.hand(x, "wait 0;"), -6);
        Check.feed(x, TAPE_TEXT);
        return x;
    }

    /** BLADE, HAND, SENTENCE and BENDS alone. */
    static void bare(SingingSaw x) {
        Check.blade(x, BLADE);
        Check.hand(x, HAND);
        Check.sentence(x, SENTENCE);
        for (int[] bend : BENDS) {
            x.write(bend[0], bend[1]);
        }
    }

    static Map<String, String> of(SingingSaw x) {
        Probe p = new Probe(x);
        p.toldLast();
        p.now("blade", "hand", "voices");
        p.tape();
        p.sentenceAndBook();
        p.shelf("shelf");
        p.image(1);
        p.image(0);
        return p.told;
    }

    /** What the first saw tells and the second one does not, but for what may differ. */
    static void same(String name, SingingSaw x, SingingSaw y, String... mayDiffer) {
        Map<String, String> got = of(x);
        Map<String, String> want = of(y);
        Set<String> free = new TreeSet<>(Arrays.asList(mayDiffer));
        for (String key : want.keySet()) {
            if (!free.contains(key) && !want.get(key).equals(got.get(key))) {
                System.out.println(name + ": " + key + " is " + got.get(key) + ", due is " + want.get(key));
            }
            Check.due(name + ": " + key, free.contains(key) || want.get(key).equals(got.get(key)), true);
        }
    }

    private void tell(String key, long... answers) {
        told.merge(key, Arrays.toString(answers), String::concat);
    }

    private void toldLast() {
        tell("fault", x.fault());
        tell("run", x.run(0), x.run(1), x.run(2), x.run(3), x.run(4));
        for (int i = 0; i < 9; i++) {
            tell("bow", x.bow(i));
        }
        tell("worth", x.worth());
        for (int i = 0; i < 6; i++) {
            tell("evenAt", x.evenAt(i));
        }
        for (int i = 0; i < 4; i++) {
            tell("songAt", x.songAt(i));
            tell("readAt", x.readAt(i));
        }
        tell("formBy", x.formBy());
        tell("tape", x.count(5));
    }

    private void now(String blade, String hand, String voices) {
        tell(blade, x.count(0), x.count(1), x.count(2));
        for (int i = 0; i < x.count(0) && i < 9; i++) {
            tell(blade, Check.piece(x, i, 0), Check.piece(x, i, 1), Check.piece(x, i, 2), Check.piece(x, i, 3));
        }
        tell(hand, x.count(3));
        for (int t = 1; t <= 6; t++) {
            tell(hand, Check.tick(x, t, 0), Check.tick(x, t, 1));
        }
        tell(voices, Check.tick(x, 1, 2), Check.tick(x, 2, 3), Check.tick(x, 3, 4));
        for (int k = 0; k < 8; k++) {
            tell(voices, x.voice(k, 0));
        }
        tell(voices, x.range(0), x.range(1), x.range(2), x.range(3));
        tell(voices, x.said(-1), x.said(0), x.said(1), x.said(2));
    }

    /** The tape is read as a HAND: TAPE_TEXT, or what is left of it. */
    private void tape() {
        tell("tape", x.hand(), Check.tick(x, 1, 0), Check.tick(x, 1, 1), Check.tick(x, 2, 0), Check.tick(x, 2, 1));
        x.end(0);
    }

    private void sentenceAndBook() {
        Check.blade(x, OTHER_BLADE);
        Check.hand(x, OTHER_HAND);
        tell("sentence", x.said(-1), x.said(0), x.said(1), x.said(2));
        tell("book", x.count(4));
        for (int k = 0; k < 8; k++) {
            tell("book", x.voice(k, 0), x.voice(k, 1));
        }
        for (int k : new int[] {1, 2, 4}) {
            Check.feedNotes(x, OTHER_VOICES[0], OTHER_VOICES[k]);
            tell("book", x.song(0));
        }
    }

    private void shelf(String key) {
        for (int k = 0; k < 4; k++) {
            boolean isThere = x.take(k);
            tell(key, isThere ? 1 : 0);
            if (isThere) {
                tell(key, x.count(0), x.count(1), x.count(2), x.piece(0, 0), x.piece(2, 1), x.piece(2, 2), x.piece(2, 3));
            }
        }
    }

    private void image(int k) {
        boolean isThere = x.restore(k);
        tell("images", isThere ? 1 : 0);
        if (isThere) {
            tell("images", x.count(0), x.count(1), x.count(2), x.count(3), x.count(4), x.piece(0, 0), x.piece(2, 1));
            tell("images", Check.tick(x, 1, 0), Check.tick(x, 2, 1), x.said(-1), x.said(0), x.voice(0, 0), x.voice(1, 0));
            shelf("images");
        }
    }
}
