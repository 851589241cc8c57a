/** Promises 35 (image), 36 (restore). */
public final class ImageTest {
    public static void main(String[] args) {
        SingingSaw x = new SingingSaw();
        for (int k : new int[] {-1, 2, Integer.MAX_VALUE, Integer.MIN_VALUE}) {
            Check.due("image(" + k + ")", x.image(k), false);
            Check.due("restore(" + k + ")", x.restore(k), false);
        }
        Check.due("restore(0) of nothing", x.restore(0), false);
        Check.due("restore(1) of nothing", x.restore(1), false);
        Check.due("image(1)", x.image(1), true);
        Check.due("restore(0) of nothing still", x.restore(0), false);

        Check.blade(x, "piece 5 10 10 teeth 0 own 0;unit 10;bear 1800;");
        Check.hand(x, "at 400 -400;wait 3;");
        Check.sentence(x, "sings");
        x.write(400, -400);
        x.write(800, -400);
        x.keep(2);
        Check.due("image(0)", x.image(0), true);

        Check.blade(x, "piece 6 9 9;unit 9;bear 9;");
        x.keep(2);
        x.keep(0);
        Check.hand(x, "wait 9;");
        Check.sentence(x, "not sings and tick < 5");
        x.write(7, 7);
        x.forge(3, 3);
        // What is told last, and the tape, stay as they are with restore().
        Check.due("tone()", x.tone(0, 0, 0, 0), 2);
        Check.due("where()", x.where(0, 0, 0, 1, 0) >= 0, true);
        int worth = x.worth();
        x.feed(1, 2, 3, 4, 5);
        Check.due("restore(0)", x.restore(0), true);
        int[] counts = {5, 10, 1800, 3, 2, 20};
        for (int what = 0; what < 6; what++) {
            Check.due("count(" + what + ") restored", x.count(what), counts[what]);
        }
        Check.due("thick restored", x.piece(4, 1), 10);
        Check.due("run(1) stays", x.run(1), 5);
        Check.due("bow(5) stays", x.bow(5) >= 0, true);
        Check.due("worth() stays", x.worth(), worth);
        Check.due("tick(1, 0) restored", x.tick(1, 0), 400);
        Check.due("tick(3, 2) restored", x.tick(3, 2), 10);
        Check.due("voice(1, 0) restored", x.voice(1, 0), 15);
        Check.due("voice(2, 0) restored", x.voice(2, 0), -1);
        Check.due("said(-1) restored", x.said(-1), 3);
        Check.due("write goes on from there", x.write(1, 2), 2);
        Check.due("take(0) restored", x.take(0), false);
        Check.due("take(2) restored", x.take(2), true);
        Check.due("its unit", x.count(1), 10);
        x.end(0);
        Check.blade(x, "?");
        Check.due("fault()", x.fault(), 1);
        Check.due("restore(0) again", x.restore(0), true);
        Check.due("fault() stays", x.fault(), 1);
        Check.due("what is written behind an image is not in it", x.count(4), 2);
        Check.due("restore(1)", x.restore(1), true);
        int[] first = {3, 300, 2000, 0, 0, 0};
        for (int what = 0; what < 6; what++) {
            Check.due("count(" + what + ") of the first image", x.count(what), first[what]);
        }
        Check.due("no SENTENCE in the first image", x.said(-1), -1);
        Check.due("no SHELF in the first image", x.take(2), false);
        // A later image takes the place of an earlier one, and the lists told last stay.
        x.write(400, -400);
        Check.blade(x, "piece 5 10 10;unit 10;");
        Check.due("read()", x.read(10, 0), 1);
        Check.due("even()", x.even(0, 0, 3), 0);
        Check.feedNotes(x, 10, 10);
        Check.due("song()", x.song(0), 0);
        Check.due("form()", x.form(10, 11), 1010);
        Check.due("image(0) anew", x.image(0), true);
        Check.due("restore(1)", x.restore(1), true);
        Check.due("readAt(0) stays", x.readAt(0), 0);
        Check.due("evenAt(3) stays", x.evenAt(3), 0);
        Check.due("songAt(1) stays", x.songAt(1), 0);
        Check.due("formBy() stays", x.formBy(), 0);
        Check.due("an empty BOOK", x.voice(0, 0), -1);
        Check.due("restore(0)", x.restore(0), true);
        Check.due("one BEND", x.count(4), 1);
        Check.due("its voice", x.voice(0, 0), 10);
        Check.due("no HAND", x.count(3), 0);
        unlike();
        empty();
        Check.finish("ImageTest");
    }

    private static void voices(SingingSaw x, int... voices) {
        Check.due("BENDS of the BOOK", x.count(4), voices.length);
        for (int k = 0; k <= voices.length; k++) {
            Check.due("voice(" + k + ", 0)", x.voice(k, 0), k < voices.length ? voices[k] : -1);
        }
    }

    /** Promises 35, 36: two images that are unlike in everything, restored by turns, with changes between that neither sees. */
    private static void unlike() {
        SingingSaw x = new SingingSaw();
        x.image(1);
        Check.blade(x, "piece 5 10 10;unit 10;");
        Check.hand(x, "at 1 2;wait 2;");
        Check.sentence(x, "tick=2");
        x.write(400, -400);
        x.write(800, -400);
        x.keep(0);
        Check.due("image(0)", x.image(0), true);
        Check.due("restore(1)", x.restore(1), true);
        voices(x);
        Check.blade(x, "piece 5 10 10;unit 20;");
        Check.hand(x, "at 3 4;wait 3;");
        Check.sentence(x, "tick>1");
        x.write(800, -400);
        x.write(400, 400);
        x.write(400, -400);
        x.keep(1);
        Check.due("image(1)", x.image(1), true);
        int other = x.voice(0, 0);
        for (int turn = 0; turn < 3; turn++) {
            Check.due("restore(0)", x.restore(0), true);
            voices(x, 10, 15);
            Check.due("unit of image 0", x.count(1), 10);
            Check.due("a of image 0", x.tick(2, 0), 1);
            Check.due("TICKS of image 0", x.count(3), 2);
            Check.due("said(-1) of image 0", x.said(-1), 1);
            Check.due("take(1) of image 0", x.take(1), false);
            Check.due("take(0) of image 0", x.take(0), true);
            // What comes now is not in image 0.
            x.write(400, -400);
            x.keep(1);
            x.forge(9, 8);
            Check.hand(x, "wait 9;");
            Check.sentence(x, "tick=9");
            Check.due("restore(1)", x.restore(1), true);
            voices(x, other, 0, 20);
            Check.due("unit of image 1", x.count(1), 20);
            Check.due("b of image 1", x.tick(3, 1), 4);
            Check.due("said(-1) of image 1", x.said(-1), 2);
            Check.due("take(0) of image 1", x.take(0), false);
            Check.due("take(1) of image 1", x.take(1), true);
            Check.due("its thick", x.piece(4, 1), 10);
            x.keep(0);
            x.write(0, 0);
        }
        // A later image in the same place has nothing of the earlier one.
        Check.due("image(0) anew", x.image(0), true);
        x.restore(1);
        Check.due("restore(0)", x.restore(0), true);
        voices(x, other, 0, 20, 0);
        Check.due("take(0)", x.take(0), true);
    }

    /** Promises 35, 36: an image of what is empty: HAND, BOOK, SHELF and SENTENCE are empty again; one of a full BOOK is full. */
    private static void empty() {
        SingingSaw x = new SingingSaw();
        Check.due("image(0) of a new object", x.image(0), true);
        for (int k = 0; k < 40; k++) {
            x.write(k, -k);
        }
        for (int k = 0; k < 4; k++) {
            x.keep(k);
        }
        Check.hand(x, "wait 99;wait 99;wait 2;");
        Check.sentence(x, "tick>0");
        Check.due("image(1) of all that there is room for", x.image(1), true);
        Check.due("restore(0)", x.restore(0), true);
        Check.due("an empty BOOK", x.count(4), 0);
        Check.due("voice(0, 0)", x.voice(0, 0), -1);
        Check.due("no HAND", x.count(3), 0);
        Check.due("tick(1, 0)", Check.tick(x, 1, 0), Check.THROWN);
        Check.due("no SENTENCE", x.said(-1), -1);
        for (int k = 0; k < 4; k++) {
            Check.due("take(" + k + ")", x.take(k), false);
        }
        Check.due("the first BEND anew", x.write(5, 5), 0);
        Check.due("restore(1)", x.restore(1), true);
        Check.due("a full BOOK", x.count(4), 40);
        Check.due("no 41st BEND", x.write(5, 5), -1);
        Check.due("200 TICKS", x.count(3), 200);
        Check.due("all so", x.said(-1), 200);
        for (int k = 0; k < 4; k++) {
            Check.due("take(" + k + ")", x.take(k), true);
        }
    }
}
