import java.util.NoSuchElementException;
import java.util.Random;

/** All promises: long runs of drawn calls (the same ones each time) against the document's slow twin. */
public final class ModelTest {
    private static final int RUNS = 900;
    // An object has 512 calls in all: the last step may be a long one.
    private static final int CALLS = 455;

    private final Random draw;
    private final SingingSaw saw = new SingingSaw();
    private final NaiveSaw twin = new NaiveSaw();
    private final StringBuilder log = new StringBuilder();
    private int reach = 4000;
    private int calls = 0;

    private ModelTest(long seed) {
        draw = new Random(seed);
    }

    public static void main(String[] args) {
        int runs = args.length > 0 ? Integer.parseInt(args[0]) : RUNS;
        long first = args.length > 1 ? Long.parseLong(args[1]) : 1;
        for (long seed = first; seed < first + runs; seed++) {
            ModelTest run = new ModelTest(seed);
            run.play();
            if (Check.wrongSoFar() > 0) {
                System.out.println("in the run with seed " + seed + ":\n" + run.log);
                break;
            }
            NaiveSaw.forget();
        }
        Check.finish("ModelTest");
    }

    private void play() {
        while (calls < CALLS && Check.wrongSoFar() == 0) {
            step(draw.nextInt(44));
        }
    }

    private int upTo(int n) {
        return draw.nextInt(n + 1);
    }

    /** Mostly from low to high, now and then what lies about or far outside. */
    private int near(int low, int high) {
        int kind = draw.nextInt(40);
        if (kind == 0) {
            return low - 1;
        }
        if (kind == 1) {
            return high + 1;
        }
        if (kind == 2) {
            return draw.nextInt();
        }
        return low + draw.nextInt(high - low + 1);
    }

    private int hand() {
        int kind = draw.nextInt(60);
        if (kind == 0) {
            return draw.nextBoolean() ? 9999 : -9999;
        }
        if (kind == 1) {
            return draw.nextBoolean() ? 10000 : -10000;
        }
        return draw.nextInt(2 * reach + 1) - reach;
    }

    /** The tip, mostly bent the other way than the knee, like an S. */
    private int tip(int a) {
        int b = hand();
        return draw.nextInt(3) > 0 && (a > 0) == (b > 0) ? -b : b;
    }

    private void same(String call, long got, long want) {
        calls++;
        log.append("  ").append(call).append(" = ").append(want).append('\n');
        Check.due(call, got, want);
    }

    private void same(String call, boolean got, boolean want) {
        same(call, got ? 1 : 0, want ? 1 : 0);
    }

    private void feed(String text) {
        int before = twin.count(5);
        for (int at = 0; at < text.length(); at += 20) {
            int[] w = new int[5];
            for (int i = 0; i < 20; i++) {
                w[i / 4] = w[i / 4] << 8 | (at + i < text.length() ? text.charAt(at + i) & 255 : 0);
            }
            same("feed(" + w[0] + ", " + w[1] + ", " + w[2] + ", " + w[3] + ", " + w[4] + ")",
                saw.feed(w[0], w[1], w[2], w[3], w[4]), twin.feed(w[0], w[1], w[2], w[3], w[4]));
        }
        int n = before + text.length();
        same("end(" + n + ") '" + text + "'", saw.end(n), twin.end(n));
    }

    private String number(int low, int high) {
        return Integer.toString(draw.nextInt(60) == 0 ? high + 1 : low + draw.nextInt(high - low + 1));
    }

    private String blanks() {
        return draw.nextInt(6) == 0 ? draw.nextBoolean() ? "  " : " \n" : " ";
    }

    private String bladeText() {
        StringBuilder text = new StringBuilder();
        boolean even = draw.nextInt(4) > 0;
        int thick = 3 + upTo(6);
        // Far enough for walls, and mostly not so far that the blade breaks.
        reach = even ? Math.min(9999, 14 * thick * thick * thick) : new int[] {300, 2000, 9999}[draw.nextInt(3)];
        int lines = 1 + upTo(9);
        for (int i = 0; i < lines; i++) {
            int t = even ? Math.max(1, thick + upTo(2) - 1) : 1 + upTo(19);
            text.append("piece").append(blanks()).append(number(1, draw.nextInt(9) == 0 ? 30 : 6)).append(' ')
                .append(number(even ? 50 : 1, 99)).append(blanks()).append(t);
            if (draw.nextInt(4) == 0) {
                text.append(" teeth ").append(number(0, 9));
            }
            if (draw.nextInt(3) == 0) {
                text.append(" own ").append(draw.nextBoolean() ? "-" : "").append(number(0, 99));
            }
            text.append(draw.nextInt(5) == 0 ? " ; " : ";");
        }
        if (draw.nextInt(10) > 0) {
            text.append("unit ").append(number(1, new int[] {5, 40, 40, 300, 300, 9999}[draw.nextInt(6)])).append(';');
        }
        if (draw.nextInt(10) > 0) {
            text.append("bear ").append(draw.nextInt(6) == 0 ? number(1, 3000) : number(6000, 9999)).append(';');
        }
        if (draw.nextInt(15) == 0) {
            text.append(draw.nextBoolean() ? "unit 5;" : "bear 700;");
        }
        return text.toString();
    }

    private String bendText() {
        int a = hand();
        int b = tip(a);
        return (a < 0 ? "-" : "") + blanks() + Math.abs(a) + " " + (b < 0 ? "- " : "") + Math.abs(b);
    }

    private String handText() {
        StringBuilder text = new StringBuilder();
        int moves = upTo(8);
        for (int i = 0; i < moves; i++) {
            String t = number(1, draw.nextInt(6) == 0 ? 99 : 9) + ";";
            switch (draw.nextInt(4)) {
                case 0:
                    text.append("at ").append(bendText()).append(';');
                    break;
                case 1:
                    text.append("to ").append(bendText()).append(" in ").append(t);
                    break;
                case 2:
                    text.append("shake ").append(number(0, 999)).append(" in ").append(t);
                    break;
                default:
                    text.append("wait ").append(t);
                    break;
            }
        }
        return text.toString();
    }

    private String oneText(int depth) {
        int kind = draw.nextInt(10);
        if (kind < 2 && depth < 10) {
            return "not " + oneText(depth + 1);
        }
        if (kind < 4 && depth < 10) {
            return "(" + condText(depth + 1) + ")";
        }
        if (kind < 6) {
            return new String[] {"sings", "broken", "twice"}[draw.nextInt(3)];
        }
        int what = draw.nextInt(6);
        int[] most = {600, 40, 1500, 6000, 8, 40};
        return new String[] {"tone", "place", "rings", "strain", "places", "tick"}[what] + blanks()
            + "<=>".charAt(draw.nextInt(3)) + upTo(most[what]);
    }

    private String condText(int depth) {
        StringBuilder text = new StringBuilder(oneText(depth));
        while (draw.nextInt(5) < 2) {
            text.append(draw.nextBoolean() ? " and " : " or ").append(oneText(depth));
        }
        return text.toString();
    }

    private String spoilt(String text) {
        if (draw.nextInt(4) > 0) {
            return text;
        }
        StringBuilder spoilt = new StringBuilder(text);
        int times = 1 + upTo(1);
        for (int i = 0; i < times && spoilt.length() > 0; i++) {
            int at = draw.nextInt(spoilt.length());
            switch (draw.nextInt(4)) {
                case 0:
                    spoilt.deleteCharAt(at);
                    break;
                case 1:
                    spoilt.setCharAt(at, " ;-<=>().a0zA\n\t\u00e9{".charAt(draw.nextInt(17)));
                    break;
                case 2:
                    spoilt.insert(at, " ;-<=>().a0zA\n\t\u00e9{".charAt(draw.nextInt(17)));
                    break;
                default:
                    spoilt.setLength(at);
                    break;
            }
        }
        return spoilt.toString();
    }

    /** Texts round the limit and beyond it, by doubling lines or by blanks. */
    private String stretched(String text, int limit) {
        if (draw.nextInt(12) > 0) {
            return text;
        }
        StringBuilder longer = new StringBuilder();
        int wanted = limit - 12 + upTo(24);
        boolean byBlanks = draw.nextBoolean() || text.isEmpty();
        while (longer.length() + text.length() < wanted) {
            longer.append(byBlanks ? " " : draw.nextInt(8) == 0 ? " " : "wait 1;unit 7;".substring(draw.nextInt(2) * 7, draw.nextInt(2) * 7 + 7 > 7 ? 14 : 7));
        }
        longer.insert(draw.nextBoolean() ? 0 : longer.length(), text);
        return longer.length() > 540 ? longer.substring(0, 540) : longer.toString();
    }

    private void readBlade() {
        feed(stretched(spoilt(bladeText()), 500));
        same("blade()", saw.blade(), twin.blade());
        same("fault()", saw.fault(), twin.fault());
        same("count(0)", saw.count(0), twin.count(0));
    }

    private void step(int kind) {
        if (calls == 0 && draw.nextInt(8) > 0) {
            readBlade();
        }
        switch (kind) {
            case 0:
                if (draw.nextInt(4) == 0) {
                    readBlade();
                }
                break;
            case 1:
                feed(stretched(spoilt(handText()), 300));
                same("hand()", saw.hand(), twin.hand());
                same("fault()", saw.fault(), twin.fault());
                break;
            case 2:
                feed(stretched(spoilt(condText(1)), 200));
                same("sentence()", saw.sentence(), twin.sentence());
                same("fault()", saw.fault(), twin.fault());
                break;
            case 3: case 4: case 5: case 6:
                askBend();
                break;
            case 7: case 8: case 9:
                askTone();
                break;
            case 10: case 11:
                askWhere();
                break;
            case 12: case 13: case 14:
                askTick();
                break;
            case 15: case 16: case 17:
                askWrite();
                break;
            case 18: case 19:
                askVoices();
                break;
            case 20: case 21: case 22:
                askSong();
                break;
            case 23: case 24: case 25:
                askReading();
                break;
            case 26: case 27:
                askEven();
                break;
            case 28: case 29:
                askTremble();
                break;
            case 30: case 31:
                askShelf();
                break;
            case 32: case 33:
                askWhich();
                break;
            case 34:
                askForm();
                break;
            case 35: case 36: case 37:
                askSaid();
                break;
            case 38: case 39:
                askImage();
                break;
            default:
                askRest();
                break;
        }
    }

    private void askBend() {
        int a = hand();
        int b = tip(a);
        int i = near(0, twin.count(0) - 1);
        int what = near(0, 1);
        same("bend(" + a + ", " + b + ", " + i + ", " + what + ")", Check.bend(saw, a, b, i, what), bendOfTwin(a, b, i, what));
        same("breaks(" + a + ", " + b + ")", saw.breaks(a, b), twin.breaks(a, b));
        int k = near(-1, 4);
        same("place(" + a + ", " + b + ", " + k + ")", saw.place(a, b, k), twin.place(a, b, k));
    }

    private int bendOfTwin(int a, int b, int i, int what) {
        try {
            return twin.bend(a, b, i, what);
        } catch (NoSuchElementException e) {
            return Check.THROWN;
        }
    }

    private void askTone() {
        int a = hand();
        int b = tip(a);
        int k = near(0, Math.max(0, twin.place(a, b, -1) - 1));
        int m = near(0, draw.nextBoolean() ? 1 : 5);
        same("tone(" + a + ", " + b + ", " + k + ", " + m + ")", saw.tone(a, b, k, m), twin.tone(a, b, k, m));
        for (int what = -1; what <= 5; what++) {
            same("run(" + what + ")", saw.run(what), twin.run(what));
        }
        int i = near(0, twin.count(0));
        same("bow(" + i + ")", saw.bow(i), twin.bow(i));
        int from = Math.max(0, twin.run(0));
        same("bow(" + from + ")", saw.bow(from), twin.bow(from));
    }

    private void askWhere() {
        int a = hand();
        int b = tip(a);
        int k = near(0, Math.max(0, twin.place(a, b, -1) - 1));
        int m = near(0, 3);
        int o = near(0, 3);
        same("where(" + a + ", " + b + ", " + k + ", " + m + ", " + o + ")", saw.where(a, b, k, m, o), twin.where(a, b, k, m, o));
        same("worth()", saw.worth(), twin.worth());
    }

    private void askTick() {
        int t = near(1, Math.max(1, twin.count(3)));
        int what = near(0, 4);
        int want;
        try {
            want = twin.tick(t, what);
        } catch (NoSuchElementException e) {
            want = Check.THROWN;
        }
        same("tick(" + t + ", " + what + ")", Check.tick(saw, t, what), want);
    }

    private void askWrite() {
        int times = draw.nextInt(30) == 0 ? 40 : 1;
        for (int i = 0; i < times; i++) {
            int a = hand();
            int b = tip(a);
            same("write(" + a + ", " + b + ")", saw.write(a, b), twin.write(a, b));
        }
    }

    private void askVoices() {
        int k = near(0, Math.max(0, twin.count(4) - 1));
        int what = near(0, 1);
        same("voice(" + k + ", " + what + ")", saw.voice(k, what), twin.voice(k, what));
        what = near(0, 3);
        same("range(" + what + ")", saw.range(what), twin.range(what));
    }

    private int someTone() {
        int k = draw.nextInt(Math.max(1, twin.count(4)));
        int voice = twin.voice(k, 0);
        return voice > 0 && draw.nextInt(15) > 0 ? Math.max(0, voice + upTo(30) - 15) : near(1, 2000);
    }

    private void askSong() {
        StringBuilder text = new StringBuilder();
        int notes = draw.nextInt(20) == 0 ? 59 + upTo(3) : upTo(12);
        for (int i = 0; i < notes; i++) {
            int tone = someTone();
            text.append((char) (tone >> 8 & 255)).append((char) (tone & 255));
        }
        if (draw.nextInt(20) == 0) {
            text.append('x');
        }
        feed(text.toString());
        int slip = draw.nextInt(3) == 0 ? near(0, 200) : upTo(40);
        same("song(" + slip + ")", saw.song(slip), twin.song(slip));
        for (int i = -1; i <= Math.min(notes, 12); i++) {
            same("songAt(" + i + ")", saw.songAt(i), twin.songAt(i));
        }
    }

    private void askReading() {
        int tone = someTone();
        int slip = near(0, 200);
        same("read(" + tone + ", " + slip + ")", saw.read(tone, slip), twin.read(tone, slip));
        int k = near(0, 5);
        same("readAt(" + k + ")", saw.readAt(k), twin.readAt(k));
    }

    private void askEven() {
        int j = near(0, Math.max(0, twin.count(4) - 1));
        int k = near(0, Math.max(0, twin.count(4) - 1));
        int n = near(1, 20);
        same("even(" + j + ", " + k + ", " + n + ")", saw.even(j, k, n), twin.even(j, k, n));
        int i = near(0, 20);
        same("evenAt(" + i + ")", saw.evenAt(i), twin.evenAt(i));
    }

    private void askTremble() {
        int a = hand();
        int b = tip(a);
        int j = near(0, draw.nextBoolean() ? 99 : 999);
        same("tremble(" + a + ", " + b + ", " + j + ")", saw.tremble(a, b, j), twin.tremble(a, b, j));
    }

    private void askShelf() {
        int k = near(0, 3);
        if (draw.nextBoolean()) {
            same("keep(" + k + ")", saw.keep(k), twin.keep(k));
        } else {
            same("take(" + k + ")", saw.take(k), twin.take(k));
        }
    }

    private void askWhich() {
        StringBuilder text = new StringBuilder();
        int told = draw.nextInt(20) == 0 ? 39 + upTo(2) : upTo(4);
        for (int i = 0; i < told; i++) {
            int k = draw.nextInt(Math.max(1, twin.count(4) + (draw.nextInt(30) == 0 ? 1 : 0)));
            int voice = twin.voice(k, 0);
            int tone = voice > 0 ? voice : draw.nextInt(40) == 0 ? 0 : 1 + upTo(300);
            text.append((char) k).append((char) (tone >> 8)).append((char) (tone & 255));
        }
        if (draw.nextInt(20) == 0) {
            text.append('x');
        }
        feed(text.toString());
        int slip = near(0, 200);
        same("which(" + slip + ")", saw.which(slip), twin.which(slip));
    }

    private void askForm() {
        if (twin.count(4) > 12 && draw.nextInt(10) > 0) {
            return;
        }
        int low = near(1, 20);
        int high = draw.nextInt(6) == 0 ? near(1, 20) : low < 1 ? low : low > 20 ? low : low + upTo(draw.nextInt(6) == 0 ? 6 : 2);
        same("form(" + low + ", " + high + ")", saw.form(low, high), twin.form(low, high));
        same("formBy()", saw.formBy(), twin.formBy());
        if (draw.nextInt(4) == 0) {
            int s = near(1, 20);
            int e = near(1, 20);
            same("forge(" + s + ", " + e + ")", saw.forge(s, e), twin.forge(s, e));
        }
    }

    private void askSaid() {
        int k = near(-1, 9);
        same("said(" + k + ")", saw.said(k), twin.said(k));
    }

    private void askImage() {
        int k = near(0, 1);
        if (draw.nextBoolean()) {
            same("image(" + k + ")", saw.image(k), twin.image(k));
        } else {
            same("restore(" + k + ")", saw.restore(k), twin.restore(k));
        }
    }

    private void askRest() {
        int what = near(0, 5);
        same("count(" + what + ")", saw.count(what), twin.count(what));
        int i = near(0, twin.count(0) - 1);
        what = near(0, 4);
        int want;
        try {
            want = twin.piece(i, what);
        } catch (NoSuchElementException e) {
            want = Check.THROWN;
        }
        same("piece(" + i + ", " + what + ")", Check.piece(saw, i, what), want);
        if (draw.nextInt(6) == 0) {
            int n = near(0, 40);
            same("end(" + n + ")", saw.end(n), twin.end(n));
        }
        if (draw.nextInt(30) == 0) {
            for (int k = 0; k < 28; k++) {
                int w = draw.nextInt();
                same("feed(" + w + ", 1, 2, 3, 4)", saw.feed(w, 1, 2, 3, 4), twin.feed(w, 1, 2, 3, 4));
            }
            same("end(0)", saw.end(0), twin.end(0));
        }
    }
}
