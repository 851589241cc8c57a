import java.util.NoSuchElementException;

/** What the tests share: comparing answers, and putting texts on the tape. */
final class Check {
    static final int THROWN = Integer.MIN_VALUE;

    private static int wrong = 0;
    private static int asked = 0;

    private Check() {
    }

    static void due(String call, long got, long want) {
        asked++;
        if (got != want) {
            wrong++;
            System.out.println(call + " answered " + got + ", due is " + want);
        }
    }

    static void due(String call, boolean got, boolean want) {
        due(call, got ? 1 : 0, want ? 1 : 0);
    }

    /** Ends the test: exit code 1 if an answer was wrong or none was asked for. */
    static void finish(String name) {
        System.out.println(name + ": " + asked + " answers, " + wrong + " wrong");
        if (wrong != 0 || asked == 0) {
            System.exit(1);
        }
    }

    static int wrongSoFar() {
        return wrong;
    }

    /** The bytes of a text, each char one byte, as the tape: what is on it already stays ahead. */
    static void feed(SingingSaw x, String text) {
        int before = x.count(5);
        for (int at = 0; at < text.length(); at += 20) {
            x.feed(word(text, at), word(text, at + 4), word(text, at + 8), word(text, at + 12), word(text, at + 16));
        }
        if (!x.end(before + text.length())) {
            throw new IllegalStateException("the text is too long for the tape");
        }
    }

    private static int word(String text, int at) {
        int word = 0;
        for (int i = at; i < at + 4; i++) {
            word = word << 8 | (i < text.length() ? text.charAt(i) & 255 : 0);
        }
        return word;
    }

    static int blade(SingingSaw x, String text) {
        feed(x, text);
        return x.blade();
    }

    static int hand(SingingSaw x, String text) {
        feed(x, text);
        return x.hand();
    }

    static int sentence(SingingSaw x, String text) {
        feed(x, text);
        return x.sentence();
    }

    /** Notes as pairs of bytes. */
    static void feedNotes(SingingSaw x, int... notes) {
        StringBuilder text = new StringBuilder();
        for (int note : notes) {
            text.append((char) (note >> 8 & 255)).append((char) (note & 255));
        }
        feed(x, text.toString());
    }

    /** A BEND and a tone, a BEND and a tone, ... as three bytes each. */
    static void feedTold(SingingSaw x, int... told) {
        StringBuilder text = new StringBuilder();
        for (int i = 0; i + 1 < told.length; i += 2) {
            text.append((char) told[i]).append((char) (told[i + 1] >> 8 & 255)).append((char) (told[i + 1] & 255));
        }
        feed(x, text.toString());
    }

    static int piece(SingingSaw x, int i, int what) {
        try {
            return x.piece(i, what);
        } catch (NoSuchElementException e) {
            return THROWN;
        }
    }

    static int bend(SingingSaw x, int a, int b, int i, int what) {
        try {
            return x.bend(a, b, i, what);
        } catch (NoSuchElementException e) {
            return THROWN;
        }
    }

    static int tick(SingingSaw x, int t, int what) {
        try {
            return x.tick(t, what);
        } catch (NoSuchElementException e) {
            return THROWN;
        }
    }

    /** A reader of a text: blade, hand or sentence. */
    interface Reader {
        int read(SingingSaw x, String text);
    }

    /** The text has a FAULT of that kind at that place. */
    static void fault(Reader reader, SingingSaw x, String text, int place, int kind) {
        String shown = text.length() > 60 ? text.substring(0, 60) + ".. (" + text.length() + " bytes)" : text;
        due("reading '" + shown + "'", reader.read(x, text), -1 - place);
        due("fault() of '" + shown + "'", x.fault(), kind);
        due("the tape behind '" + shown + "'", x.count(5), 0);
    }

    /** The text has no FAULT. */
    static void taken(Reader reader, SingingSaw x, String text) {
        due("reading '" + text + "' without a FAULT", reader.read(x, text) >= 0, true);
        due("fault() of '" + text + "'", x.fault(), 0);
        due("the tape behind '" + text + "'", x.count(5), 0);
    }

    static void fine(Reader reader, SingingSaw x, String text, int answer) {
        String shown = text.length() > 60 ? text.substring(0, 60) + ".. (" + text.length() + " bytes)" : text;
        due("reading '" + shown + "'", reader.read(x, text), answer);
        due("fault() of '" + shown + "'", x.fault(), 0);
        due("the tape behind '" + shown + "'", x.count(5), 0);
    }
}
