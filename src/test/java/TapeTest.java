/** Promises 1 (a new object), 2 (feed), 3 (end), 37 (count). */
public final class TapeTest {
    public static void main(String[] args) {
        newObject();
        feeding();
        ending();
        counting();
        Check.finish("TapeTest");
    }

    /** Promise 1, and "ahead of any" of promises 5, 11, 12, 14, 21, 23, 25, 31; nothing is there to take (28), restore (36) or say (34). */
    private static void newObject() {
        SingingSaw x = new SingingSaw();
        for (int i = 0; i < 3; i++) {
            Check.due("new: width " + i, x.piece(i, 0), 30);
            Check.due("new: thick " + i, x.piece(i, 1), 5);
            Check.due("new: teeth " + i, x.piece(i, 2), 0);
            Check.due("new: own " + i, x.piece(i, 3), 0);
            Check.due("new: stiffness " + i, x.piece(i, 4), 3750);
        }
        int[] counts = {3, 300, 2000, 0, 0, 0};
        for (int what = 0; what < counts.length; what++) {
            Check.due("new: count(" + what + ")", x.count(what), counts[what]);
        }
        Check.due("new: fault()", x.fault(), 0);
        for (int what = -1; what <= 5; what++) {
            Check.due("new: run(" + what + ")", x.run(what), -1);
        }
        Check.due("new: bow(0)", x.bow(0), -1);
        Check.due("new: worth()", x.worth(), 0);
        Check.due("new: songAt(0)", x.songAt(0), -1);
        Check.due("new: readAt(0)", x.readAt(0), -1);
        Check.due("new: evenAt(0)", x.evenAt(0), -1);
        Check.due("new: formBy()", x.formBy(), -1);
        Check.due("new: said(-1)", x.said(-1), -1);
        Check.due("new: tick(1, 0)", Check.tick(x, 1, 0), Check.THROWN);
        Check.due("new: voice(0, 0)", x.voice(0, 0), -1);
        for (int k = -1; k <= 4; k++) {
            Check.due("new: take(" + k + ")", x.take(k), false);
            Check.due("new: restore(" + k + ")", x.restore(k), false);
        }
    }

    /** Promise 2: 540 bytes are taken, 541 are not, and none come; the highest byte first. */
    private static void feeding() {
        SingingSaw x = new SingingSaw();
        for (int i = 1; i <= 27; i++) {
            Check.due("feed " + i, x.feed(i, -1, Integer.MIN_VALUE, Integer.MAX_VALUE, 0), 20 * i);
        }
        Check.due("feed beyond 540", x.feed(1, 2, 3, 4, 5), -1);
        Check.due("the tape beyond 540", x.count(5), 540);
        Check.due("end(521)", x.end(521), true);
        Check.due("feed at 521", x.feed(1, 2, 3, 4, 5), -1);
        Check.due("end(520)", x.end(520), true);
        Check.due("feed at 520", x.feed(1, 2, 3, 4, 5), 540);
        // The highest byte first: 0x0001 is note 1, 0x0100 note 256, and 0xff.. are no tones.
        x.end(0);
        x.feed(0x00010100, 0, 0, 0, 0);
        x.end(4);
        Check.due("song of bytes 0 1 1 0 with an empty book", x.song(0), -1);
        x.feed(0x07D007D0, 0x00010001, 0x01000100, 0x07D00001, 0x07D00001);
        Check.due("song of 2000s and 1s", x.song(0), -1);
        x.feed(0x07D107D0, 0x00010001, 0x01000100, 0x07D00001, 0x07D00001);
        Check.due("song with 2001 first", x.song(0), -2);
        x.feed(0x07D007D0, 0x00010001, 0x01000100, 0x07D00001, 0x07D007D1);
        Check.due("song with 2001 last", x.song(0), -2);
        x.feed(0x80010001, 1, 1, 1, 1);
        Check.due("song with bytes above 127", x.song(0), -2);
        // What comes behind comes behind: two feeds make one text.
        Check.feed(x, "piece 3 ");
        Check.feed(x, "8 4;");
        Check.due("two feeds, one text", x.blade(), 3);
        Check.due("its width", x.piece(2, 0), 8);
        Check.due("its thick", x.piece(2, 1), 4);
    }

    /** Promise 3: n from 0 to as many as there are, and one outside on each side. */
    private static void ending() {
        SingingSaw x = new SingingSaw();
        Check.due("end(0) of nothing", x.end(0), true);
        Check.due("end(1) of nothing", x.end(1), false);
        Check.due("end(-1) of nothing", x.end(-1), false);
        x.feed(1, 2, 3, 4, 5);
        Check.due("end(21)", x.end(21), false);
        Check.due("the tape stays", x.count(5), 20);
        Check.due("end(-1)", x.end(-1), false);
        Check.due("end(MIN)", x.end(Integer.MIN_VALUE), false);
        Check.due("end(MAX)", x.end(Integer.MAX_VALUE), false);
        Check.due("end(20)", x.end(20), true);
        Check.due("end(7)", x.end(7), true);
        Check.due("count(5)", x.count(5), 7);
        Check.due("end(8)", x.end(8), false);
        // The first n bytes stay: not the last ones.
        x.end(0);
        Check.feed(x, "piece 3 8 4;piece 2 9 9;");
        x.end(12);
        Check.due("the first 12 bytes", x.blade(), 3);
        Check.due("their width", x.piece(0, 0), 8);
    }

    /** Promise 37: what 0 to 5, and one outside on each side. */
    private static void counting() {
        SingingSaw x = new SingingSaw();
        Check.blade(x, "piece 7 30 5;bear 4321;unit 77;");
        Check.hand(x, "wait 33;");
        x.write(1, 1);
        x.write(2, 2);
        x.feed(1, 2, 3, 4, 5);
        int[] counts = {7, 77, 4321, 33, 2, 20};
        for (int what = 0; what < counts.length; what++) {
            Check.due("count(" + what + ")", x.count(what), counts[what]);
        }
        for (int what : new int[] {-1, 6, 7, Integer.MIN_VALUE, Integer.MAX_VALUE}) {
            Check.due("count(" + what + ")", x.count(what), -1);
        }
        Check.due("a blade of what is on the tape, no text", x.blade(), -1);
        Check.due("which stays", x.count(1), 77);
        Check.due("a blade without unit, bear", Check.blade(x, "piece 4 9 9;"), 4);
        Check.due("unit without", x.count(1), 300);
        Check.due("bear without", x.count(2), 2000);
    }
}
