import java.util.NoSuchElementException;
import java.util.Random;

/**
 * All promises, and rule 7 of LANGUAGE.md: whatever is asked in whatever state, nothing is thrown but NoSuchElementException,
 * by piece, bend and tick alone. The calls are drawn, the same ones each time.
 */
public final class WildTest {
    private static final int OBJECTS = 1000;
    // Some of the drawn ones are several calls: an object has 512 in all.
    private static final int CALLS = 150;
    private static final String[] WORDS = {
        "piece", "teeth", "own", "unit", "bear", "at", "to", "in", "shake", "wait", "or", "and", "not", "(", ")", "tone", "place",
        "rings", "strain", "places", "tick", "sings", "broken", "twice", "<", "=", ">", ";", "-", ".", "0", "1", "2", "5", "9", "20",
        "60", "99", "100", "999", "9999", "10000", " ", "\n", "?", "a1", "piece 3 9 9;", "piece 1 60 5 own 9;", "wait 9;", "sings or ",
        "at 900 -900;", "unit 9;", "tick<9 and ", "to 9 -999 in 9;",
    };
    private static final int[] NUMBERS = {
        Integer.MIN_VALUE, Integer.MAX_VALUE, Integer.MIN_VALUE + 1, -10000, -9999, -2001, -200, -2, -1, 0, 1, 2, 3, 4, 5, 6, 19, 20, 21,
        39, 40, 41, 59, 60, 61, 99, 100, 199, 200, 201, 539, 540, 541, 999, 1000, 2000, 2001, 9999, 10000, 65536, 1 << 30,
    };

    private final Random draw = new Random(20261119);
    private SingingSaw saw = new SingingSaw();

    public static void main(String[] args) {
        WildTest wild = new WildTest();
        int thrown = 0;
        for (int i = 0; i < OBJECTS * CALLS; i++) {
            if (i % CALLS == 0) {
                wild.saw = new SingingSaw();
            }
            int kind = wild.draw.nextInt(60);
            boolean mayThrow = kind < 6;
            try {
                wild.call(kind);
            } catch (NoSuchElementException e) {
                thrown++;
                Check.due("a call of kind " + kind + " may throw", mayThrow, true);
            } catch (RuntimeException e) {
                e.printStackTrace(System.out);
                Check.due("a call of kind " + kind + " threw", true, false);
            }
        }
        Check.due("some were thrown", thrown > 100, true);
        Check.finish("WildTest");
    }

    private int any() {
        int kind = draw.nextInt(10);
        return kind < 5 ? draw.nextInt(8) - 1 : kind < 9 ? NUMBERS[draw.nextInt(NUMBERS.length)] : draw.nextInt();
    }

    private int hand() {
        return draw.nextInt(8) == 0 ? any() : draw.nextInt(8001) - 4000;
    }

    private void feed() {
        if (draw.nextInt(4) == 0) {
            saw.feed(draw.nextInt(), draw.nextInt(), any(), any(), any());
            return;
        }
        StringBuilder text = new StringBuilder();
        int words = draw.nextInt(30);
        for (int i = 0; i < words; i++) {
            text.append(WORDS[draw.nextInt(WORDS.length)]).append(draw.nextBoolean() ? " " : "");
        }
        if (saw.count(5) + text.length() <= 520) {
            Check.feed(saw, text.toString());
        }
    }

    private void call(int kind) {
        switch (kind) {
            case 0: case 1: saw.piece(any(), any()); break;
            case 2: case 3: saw.bend(hand(), hand(), any(), any()); break;
            case 4: case 5: saw.tick(any(), any()); break;
            case 6: saw.end(any()); break;
            case 7: case 8: saw.blade(); break;
            case 9: case 10: saw.hand(); break;
            case 11: case 12: saw.sentence(); break;
            case 13: saw.fault(); break;
            case 14: saw.breaks(hand(), hand()); break;
            case 15: saw.place(hand(), hand(), any()); break;
            case 16: case 17: saw.tone(hand(), hand(), any(), any()); break;
            case 18: saw.run(any()); break;
            case 19: saw.bow(any()); break;
            case 20: saw.where(hand(), hand(), any(), any(), any()); break;
            case 21: saw.worth(); break;
            case 22: case 23: case 24: saw.write(hand(), hand()); break;
            case 25: saw.voice(any(), any()); break;
            case 26: saw.range(any()); break;
            case 27: case 28: saw.song(any()); break;
            case 29: saw.songAt(any()); break;
            case 30: saw.read(any(), any()); break;
            case 31: saw.readAt(any()); break;
            case 32: case 33: saw.even(any(), any(), any()); break;
            case 34: saw.evenAt(any()); break;
            case 35: saw.tremble(hand(), hand(), any()); break;
            case 36: saw.keep(any()); break;
            case 37: saw.take(any()); break;
            case 38: case 39: saw.which(any()); break;
            case 40: saw.form(any(), any()); break;
            case 41: saw.formBy(); break;
            case 42: saw.forge(any(), any()); break;
            case 43: saw.said(any()); break;
            case 44: saw.image(any()); break;
            case 45: saw.restore(any()); break;
            case 46: saw.count(any()); break;
            case 47: case 48: Check.blade(fresh(), "piece 9 60 5 own " + draw.nextInt(99) + ";piece 3 50 4;unit " + (1 + draw.nextInt(99)) + ";"); break;
            case 49: Check.hand(fresh(), "to 2000 -1500 in 30;shake 999 in 20;"); break;
            case 50: Check.sentence(fresh(), "twice or not (tone>50 and sings)"); break;
            case 51: Check.feedNotes(fresh(), 41, 1 + draw.nextInt(2000)); break;
            case 52: Check.feedTold(fresh(), draw.nextInt(3), 1 + draw.nextInt(2000)); break;
            default: feed(); break;
        }
    }

    private SingingSaw fresh() {
        saw.end(0);
        return saw;
    }
}
