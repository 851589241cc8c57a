import java.util.NoSuchElementException;

/**
 * A saw that sings: a blade of pieces, bent by two hands like an S, and what can be asked of it.
 *
 * <p>Blades, hands and sentences are never changed once they have been read: the shelf and the
 * images share them, so that keeping one makes nothing new.
 */
public final class SingingSaw {
    public static final int NONE = -1;

    private static final int NOT_AS_TOLD = -2;
    private static final int MOST_TOLD = 9999;
    private static final int MOST_PIECES = 60;
    private static final int LEAST_PIECES = 3;
    private static final int MOST_THICK = 20;
    private static final int MOST_BEND = 9999;
    private static final int MOST_CURVE = 2000;
    private static final int MOST_TONE = 2000;
    private static final int MOST_HUMPS = 5;
    private static final int MOST_TICKS = 200;
    private static final int MOST_SHAKE = 999;
    private static final int MOST_BENDS = 40;
    private static final int MOST_NOTES = 60;
    private static final int MOST_SLIP = 200;
    private static final int PARTS = 100;
    private static final int MOST_STEPS = 20;
    private static final int SHELF_PLACES = 4;
    private static final int IMAGE_PLACES = 2;
    private static final int MOST_TAPE = 540;
    private static final int BLADE_BYTES = 500;
    private static final int HAND_BYTES = 300;
    private static final int SENTENCE_BYTES = 200;
    private static final int NO_PIECE = 99;
    private static final int WIDEST_CHOICE = 5;
    // Less than any RANGE, that of a FORM without a VOICE (-1) too.
    private static final int BROKEN_RANGE = -2;

    private final Tape tape = new Tape();
    private final Tokens tokens = new Tokens(tape);
    private final State now = new State(new Blade(), new Hand(), new Sentence());
    private final State[] images = new State[IMAGE_PLACES];
    private final Blade trial = new Blade();
    private final Bent bent = new Bent();
    private final Tone latest = new Tone();
    private final Tone wanted = new Tone();
    private final Tone shunned = new Tone();
    private final Song tune = new Song();
    private final Row found = new Row(MOST_BENDS);
    private final Row steps = new Row(MOST_STEPS + 1);
    private final Row partVoices = new Row(PARTS + 1);
    private final Row bookVoices = new Row(MOST_BENDS);
    private final Row bookPieces = new Row(MOST_BENDS);
    private final Row trueTicks = new Row(MOST_TICKS);
    private int faultKind = 0;
    private int bestWorth = 0;
    private int formRange = NONE;

    public SingingSaw() {
        now.blade.addAlike(LEAST_PIECES, 30, 5, 0, 0);
        now.blade.fillUntold();
    }

    public int feed(int a, int b, int c, int d, int e) {
        if (tape.size + 20 > MOST_TAPE) {
            return NONE;
        }
        tape.append(a);
        tape.append(b);
        tape.append(c);
        tape.append(d);
        tape.append(e);
        return tape.size;
    }

    public boolean end(int n) {
        if (n < 0 || n > tape.size) {
            return false;
        }
        tape.size = n;
        return true;
    }

    public int blade() {
        Blade fresh = new Blade();
        tokens.open(BLADE_BYTES);
        fresh.readFrom(tokens);
        if (tokens.fault == 0) {
            now.blade = fresh;
        }
        return closeText(fresh.size);
    }

    public int fault() {
        return faultKind;
    }

    public int piece(int i, int what) throws NoSuchElementException {
        if (!now.blade.has(i) || what < 0 || what > 4) {
            throw new NoSuchElementException("no such piece");
        }
        return now.blade.told(i, what);
    }

    public int bend(int a, int b, int i, int what) throws NoSuchElementException {
        if (!isBend(a, b) || !now.blade.has(i) || what < 0 || what > 1) {
            throw new NoSuchElementException("no such bend");
        }
        return what == 0 ? now.blade.curve(a, b, i) : now.blade.strain(a, b, i);
    }

    public int breaks(int a, int b) {
        if (!isBend(a, b)) {
            return NOT_AS_TOLD;
        }
        bent.bendTo(now.blade, a, b);
        return bent.brokenAt;
    }

    public int place(int a, int b, int k) {
        if (!isBend(a, b)) {
            return NONE;
        }
        bent.bendTo(now.blade, a, b);
        return k == NONE ? bent.places.size : bent.places.at(k);
    }

    public int tone(int a, int b, int k, int m) {
        if (!isBend(a, b)) {
            return NONE;
        }
        bent.bendTo(now.blade, a, b);
        return bent.sound(k, m, latest) ? latest.pitch : NONE;
    }

    public int run(int what) {
        if (latest.pitch == 0) {
            return NONE;
        }
        switch (what) {
            case 0:
                return latest.first;
            case 1:
                return latest.last;
            case 2:
                return latest.kept ? 1 : 0;
            case 3:
                return latest.twice ? 1 : 0;
            case 4:
                return latest.rings;
            default:
                return NONE;
        }
    }

    public int bow(int i) {
        return latest.strengths.at(i);
    }

    public int where(int a, int b, int k, int m, int o) {
        if (!isBend(a, b)) {
            return NONE;
        }
        bent.bendTo(now.blade, a, b);
        if (!bent.sound(k, m, wanted) || !bent.sound(k, o, shunned)) {
            return NONE;
        }
        int best = 0;
        int worth = wanted.strengths.at(0) - shunned.strengths.at(0);
        for (int i = 1; i < wanted.strengths.size; i++) {
            int difference = wanted.strengths.at(i) - shunned.strengths.at(i);
            if (difference > worth) {
                best = i;
                worth = difference;
            }
        }
        bestWorth = worth;
        return best;
    }

    public int worth() {
        return bestWorth;
    }

    public int hand() {
        Hand fresh = new Hand();
        tokens.open(HAND_BYTES);
        fresh.readFrom(tokens);
        if (tokens.fault == 0) {
            now.hand = fresh;
        }
        return closeText(fresh.size);
    }

    public int tick(int t, int what) throws NoSuchElementException {
        if (t < 1 || t > now.hand.size || what < 0 || what > 4) {
            throw new NoSuchElementException("no such tick");
        }
        int a = now.hand.knee(t);
        int b = now.hand.tip(t);
        if (what < 2) {
            return what == 0 ? a : b;
        }
        listenTo(now.blade, a, b);
        if (what == 2) {
            return bent.voice;
        }
        return what == 3 ? bent.voicePiece : bent.voiceRings;
    }

    public int write(int a, int b) {
        if (!isBend(a, b) || now.book.size >= MOST_BENDS) {
            return NONE;
        }
        now.book.add(a, b);
        forgetAnswers();
        return now.book.size - 1;
    }

    public int voice(int k, int what) {
        if (what < 0 || what > 1) {
            return NONE;
        }
        hearBook();
        return what == 0 ? bookVoices.at(k) : bookPieces.at(k);
    }

    public int range(int what) {
        hearBook();
        int low = NONE;
        int high = NONE;
        for (int k = 0; k < bookVoices.size; k++) {
            int voice = bookVoices.at(k);
            if (voice > 0) {
                low = low == NONE || voice < bookVoices.at(low) ? k : low;
                high = high == NONE || voice > bookVoices.at(high) ? k : high;
            }
        }
        switch (what) {
            case 0:
                return bookVoices.at(low);
            case 1:
                return bookVoices.at(high);
            case 2:
                return low;
            case 3:
                return high;
            default:
                return NONE;
        }
    }

    public int song(int slip) {
        boolean asTold = tune.readNotes(tape) && isSlip(slip);
        tape.size = 0;
        if (!asTold) {
            return NOT_AS_TOLD;
        }
        hearBook();
        return tune.play(now.book, bookVoices, slip);
    }

    public int songAt(int i) {
        return tune.bends.at(i);
    }

    public int read(int tone, int slip) {
        if (!isTone(tone) || !isSlip(slip)) {
            return NONE;
        }
        hearBook();
        found.clear();
        for (int k = 0; k < bookVoices.size; k++) {
            if (isNear(bookVoices.at(k), tone, slip)) {
                found.add(k);
            }
        }
        return found.size;
    }

    public int readAt(int k) {
        return found.at(k);
    }

    public int even(int j, int k, int n) {
        if (n < 1 || n > MOST_STEPS) {
            return NONE;
        }
        hearBook();
        int from = bookVoices.at(j);
        int to = bookVoices.at(k);
        if (from < 1 || to < 1) {
            return NONE;
        }
        hearParts(j, k);
        steps.clear();
        int widest = 0;
        for (int i = 0; i <= n; i++) {
            steps.add(nearestPart(from + (to - from) * i / n));
            if (i > 0) {
                widest = Math.max(widest, Math.abs(steps.at(i) - steps.at(i - 1)));
            }
        }
        return widest;
    }

    public int evenAt(int i) {
        return steps.at(i);
    }

    public int tremble(int a, int b, int j) {
        if (!isBend(a, b) || j < 0 || j > MOST_SHAKE) {
            return NONE;
        }
        int lowest = MOST_TONE;
        int highest = 0;
        for (int side = -1; side <= 1; side++) {
            listenTo(now.blade, a, within(b + side * j, MOST_BEND));
            if (bent.voice == 0) {
                return NONE;
            }
            lowest = Math.min(lowest, bent.voice);
            highest = Math.max(highest, bent.voice);
        }
        return highest - lowest;
    }

    public boolean keep(int k) {
        if (k < 0 || k >= SHELF_PLACES) {
            return false;
        }
        now.shelf[k] = now.blade;
        return true;
    }

    public boolean take(int k) {
        if (k < 0 || k >= SHELF_PLACES || now.shelf[k] == null) {
            return false;
        }
        now.blade = now.shelf[k];
        forgetAnswers();
        return true;
    }

    public int which(int slip) {
        boolean asTold = isSlip(slip) && tellsTones();
        int bits = asTold ? 0 : NONE;
        for (int k = 0; asTold && k < SHELF_PLACES; k++) {
            if (now.shelf[k] != null && isFitting(now.shelf[k], slip)) {
                bits = bits | 1 << k;
            }
        }
        tape.size = 0;
        return bits;
    }

    public int form(int low, int high) {
        if (low < 1 || high > MOST_THICK || low > high || high - low > WIDEST_CHOICE || now.book.size == 0) {
            return NOT_AS_TOLD;
        }
        trial.copyFrom(now.blade);
        int best = NONE;
        int most = BROKEN_RANGE;
        for (int s = low; s <= high; s++) {
            for (int e = low; e <= high; e++) {
                trial.thicken(s, e);
                int range = rangeOfTrial();
                if (range > most) {
                    most = range;
                    best = 100 * s + e;
                }
            }
        }
        if (best > 0) {
            formRange = most;
        }
        return best;
    }

    public int formBy() {
        return formRange;
    }

    public boolean forge(int s, int e) {
        if (s < 1 || s > MOST_THICK || e < 1 || e > MOST_THICK) {
            return false;
        }
        Blade forged = new Blade();
        forged.copyFrom(now.blade);
        forged.thicken(s, e);
        now.blade = forged;
        forgetAnswers();
        return true;
    }

    public int sentence() {
        Sentence fresh = new Sentence();
        tokens.open(SENTENCE_BYTES);
        fresh.readFrom(tokens);
        if (tokens.fault == 0) {
            now.sentence = fresh;
        }
        return closeText(fresh.ones);
    }

    public int said(int k) {
        if (now.sentence.ones == 0) {
            return NONE;
        }
        askTicks();
        return k == NONE ? trueTicks.size : trueTicks.at(k);
    }

    public boolean image(int k) {
        if (k < 0 || k >= IMAGE_PLACES) {
            return false;
        }
        if (images[k] == null) {
            images[k] = new State(now.blade, now.hand, now.sentence);
        }
        images[k].copyFrom(now);
        return true;
    }

    public boolean restore(int k) {
        if (k < 0 || k >= IMAGE_PLACES || images[k] == null) {
            return false;
        }
        now.copyFrom(images[k]);
        forgetAnswers();
        return true;
    }

    public int count(int what) {
        switch (what) {
            case 0:
                return now.blade.size;
            case 1:
                return now.blade.unit;
            case 2:
                return now.blade.bear;
            case 3:
                return now.hand.size;
            case 4:
                return now.book.size;
            case 5:
                return tape.size;
            default:
                return NONE;
        }
    }

    /** The end of a call that read the tape as a text, with a FAULT or without one. */
    private int closeText(int answer) {
        tape.size = 0;
        faultKind = tokens.fault;
        if (faultKind != 0) {
            return -1 - tokens.faultPlace;
        }
        forgetAnswers();
        return answer;
    }

    /** VOICES of the BOOK and true TICKS are kept between calls: they are dear, and most calls change nothing. */
    private void forgetAnswers() {
        bookVoices.isFresh = false;
        trueTicks.isFresh = false;
    }

    private void listenTo(Blade blade, int a, int b) {
        bent.bendTo(blade, a, b);
        bent.listen();
    }

    private void hearBook() {
        if (bookVoices.isFresh) {
            return;
        }
        bookVoices.clear();
        bookPieces.clear();
        for (int k = 0; k < now.book.size; k++) {
            listenTo(now.blade, now.book.knees.at(k), now.book.tips.at(k));
            bookVoices.add(bent.voice);
            bookPieces.add(bent.voicePiece);
        }
        bookVoices.isFresh = true;
    }

    private void hearParts(int j, int k) {
        int a = now.book.knees.at(j);
        int b = now.book.tips.at(j);
        int wayA = now.book.knees.at(k) - a;
        int wayB = now.book.tips.at(k) - b;
        partVoices.clear();
        for (int part = 0; part <= PARTS; part++) {
            listenTo(now.blade, a + wayA * part / PARTS, b + wayB * part / PARTS);
            partVoices.add(bent.voice);
        }
    }

    private int nearestPart(int tone) {
        int nearest = 0;
        int least = 2 * MOST_TONE;
        for (int part = 0; part < partVoices.size; part++) {
            int voice = partVoices.at(part);
            int off = Math.abs(voice - tone);
            if (voice > 0 && off < least) {
                nearest = part;
                least = off;
            }
        }
        return nearest;
    }

    private void askTicks() {
        if (trueTicks.isFresh) {
            return;
        }
        trueTicks.clear();
        for (int t = 1; t <= now.hand.size; t++) {
            listenTo(now.blade, now.hand.knee(t), now.hand.tip(t));
            if (now.sentence.holds(bent, t)) {
                trueTicks.add(t);
            }
        }
        trueTicks.isFresh = true;
    }

    private boolean tellsTones() {
        if (tape.size < 3 || tape.size > 3 * MOST_BENDS || tape.size % 3 != 0) {
            return false;
        }
        for (int i = 0; i < tape.size; i += 3) {
            if (tape.byteAt(i) >= now.book.size || !isTone(tape.pairAt(i + 1))) {
                return false;
            }
        }
        return true;
    }

    private boolean isFitting(Blade blade, int slip) {
        for (int i = 0; i < tape.size; i += 3) {
            int k = tape.byteAt(i);
            listenTo(blade, now.book.knees.at(k), now.book.tips.at(k));
            if (!isNear(bent.voice, tape.pairAt(i + 1), slip)) {
                return false;
            }
        }
        return true;
    }

    /** RANGE of the FORM tried over the BOOK: -1 without a VOICE, BROKEN_RANGE if a BEND breaks it. */
    private int rangeOfTrial() {
        int lowest = MOST_TONE;
        int highest = 0;
        for (int k = 0; k < now.book.size; k++) {
            listenTo(trial, now.book.knees.at(k), now.book.tips.at(k));
            if (bent.brokenAt != NONE) {
                return BROKEN_RANGE;
            }
            if (bent.voice > 0) {
                lowest = Math.min(lowest, bent.voice);
                highest = Math.max(highest, bent.voice);
            }
        }
        return highest == 0 ? NONE : highest - lowest;
    }

    private static boolean isBend(int a, int b) {
        return a >= -MOST_BEND && a <= MOST_BEND && b >= -MOST_BEND && b <= MOST_BEND;
    }

    private static boolean isTone(int tone) {
        return tone >= 1 && tone <= MOST_TONE;
    }

    private static boolean isSlip(int slip) {
        return slip >= 0 && slip <= MOST_SLIP;
    }

    private static boolean isNear(int voice, int tone, int slip) {
        return voice > 0 && Math.abs(voice - tone) <= slip;
    }

    private static int signed(boolean minus, int number) {
        return minus ? -number : number;
    }

    private static int within(int number, int most) {
        return Math.max(-most, Math.min(most, number));
    }

    /** Numbers one behind the other, as many as there is room for; NONE outside. */
    private static final class Row {
        private final int[] items;
        private int size = 0;
        private boolean isFresh = false;

        Row(int most) {
            items = new int[Math.max(0, most)];
        }

        void clear() {
            size = 0;
        }

        void add(int item) {
            if (size >= 0 && size < items.length) {
                items[size] = item;
                size++;
            }
        }

        int at(int i) {
            return i < 0 || i >= size || i >= items.length ? NONE : items[i];
        }

        void copyFrom(Row other) {
            clear();
            for (int i = 0; i < other.size; i++) {
                add(other.at(i));
            }
        }
    }

    /** The bytes fed that no call has used up. */
    private static final class Tape {
        private final int[] bytes = new int[MOST_TAPE];
        private int size = 0;

        void append(int number) {
            for (int shift = 24; shift >= 0; shift -= 8) {
                if (size >= 0 && size < bytes.length) {
                    bytes[size] = number >>> shift & 255;
                    size++;
                }
            }
        }

        int byteAt(int i) {
            return i < 0 || i >= size || i >= bytes.length ? NONE : bytes[i];
        }

        int pairAt(int i) {
            return byteAt(i) * 256 + byteAt(i + 1);
        }
    }

    /** The tape as TOKENS, one at a time, and the first FAULT that was met. */
    private static final class Tokens {
        private static final int END = 0;
        private static final int WORD = 1;
        private static final int NUMBER = 2;
        private static final int SIGN = 3;
        private static final int NO_TOKEN = 4;

        private final Tape tape;
        private int limit = 0;
        private int kind = END;
        private int start = 0;
        private int stop = 0;
        private int value = 0;
        private int fault = 0;
        private int faultPlace = 0;

        Tokens(Tape tape) {
            this.tape = tape;
        }

        void open(int most) {
            limit = most;
            stop = 0;
            fault = 0;
            faultPlace = 0;
            advance();
        }

        void advance() {
            start = stop;
            while (start < limit && isBlank(tape.byteAt(start))) {
                start++;
            }
            int letters = 0;
            int digits = 0;
            value = 0;
            for (stop = start; stop < tape.size && isOfRun(tape.byteAt(stop)); stop++) {
                int c = tape.byteAt(stop);
                if (c >= 'a') {
                    letters++;
                } else {
                    digits++;
                    value = digits <= 4 ? value * 10 + c - '0' : value;
                }
            }
            if (start >= limit && tape.size > limit) {
                // A text that is too long has its FAULT at the limit, wherever the last TOKEN ended.
                start = limit;
                kind = NO_TOKEN;
            } else if (start >= tape.size) {
                start = tape.size;
                kind = END;
            } else if (stop > start) {
                kind = kindOfRun(letters, digits);
            } else {
                value = tape.byteAt(start);
                kind = isSignByte(value) ? SIGN : NO_TOKEN;
                stop = start + 1;
            }
        }

        private static int kindOfRun(int letters, int digits) {
            if (letters == 0 && digits <= 4) {
                return NUMBER;
            }
            return digits == 0 && letters <= 6 ? WORD : NO_TOKEN;
        }

        private static boolean isBlank(int c) {
            return c == ' ' || c == 10;
        }

        private static boolean isOfRun(int c) {
            return c >= 'a' && c <= 'z' || c >= '0' && c <= '9';
        }

        private static boolean isSignByte(int c) {
            return c == ';' || c == '-' || c >= '<' && c <= '>' || c == '(' || c == ')';
        }

        /** FAULTS behind the first one are none: a reader may go on blindly and look at the end. */
        void fail(int faultFound) {
            if (fault == 0) {
                fault = faultFound;
                faultPlace = start;
            }
        }

        boolean isGoingOn() {
            return fault == 0 && kind != END;
        }

        boolean isWord(String word) {
            if (fault != 0 || kind != WORD || stop - start != word.length()) {
                return false;
            }
            for (int i = 0; i < word.length(); i++) {
                if (tape.byteAt(start + i) != word.charAt(i)) {
                    return false;
                }
            }
            return true;
        }

        boolean isSign(int sign) {
            return fault == 0 && kind == SIGN && value == sign;
        }

        boolean skipWord(String word) {
            boolean isThere = isWord(word);
            if (isThere) {
                advance();
            }
            return isThere;
        }

        boolean skipSign(int sign) {
            boolean isThere = isSign(sign);
            if (isThere) {
                advance();
            }
            return isThere;
        }

        void mustBeSign(int sign) {
            if (!skipSign(sign)) {
                fail(1);
            }
        }

        void mustBeWord(String word) {
            if (!skipWord(word)) {
                fail(1);
            }
        }

        int comparison() {
            int sign = value;
            if (kind != SIGN || sign < '<' || sign > '>') {
                fail(1);
            }
            if (fault != 0) {
                return 0;
            }
            advance();
            return sign;
        }

        /** A NUMBER from low to high; room is how many more may come, beyond which it is FAULT 4. */
        int number(int low, int high, int room) {
            if (kind != NUMBER) {
                fail(1);
            } else if (value < low || value > high) {
                fail(2);
            } else if (value > room) {
                fail(4);
            }
            if (fault != 0) {
                return 0;
            }
            int told = value;
            advance();
            return told;
        }
    }

    /** PIECES from the knee to the tip, and what the steel is like. */
    private static final class Blade {
        private final int[] widths = new int[MOST_PIECES];
        private final int[] thicks = new int[MOST_PIECES];
        private final int[] teeth = new int[MOST_PIECES];
        private final int[] owns = new int[MOST_PIECES];
        private int size = 0;
        private int unit = 0;
        private int bear = 0;

        boolean has(int i) {
            return i >= 0 && i < size && i < MOST_PIECES;
        }

        void addAlike(int alike, int width, int thick, int tooth, int own) {
            for (int i = 0; i < alike && size >= 0 && size < MOST_PIECES; i++) {
                widths[size] = width;
                thicks[size] = thick;
                teeth[size] = tooth;
                owns[size] = own;
                size++;
            }
        }

        void fillUntold() {
            unit = unit == 0 ? 300 : unit;
            bear = bear == 0 ? 2000 : bear;
        }

        void copyFrom(Blade other) {
            size = 0;
            for (int i = 0; i < other.size && i < MOST_PIECES; i++) {
                addAlike(1, other.widths[i], other.thicks[i], other.teeth[i], other.owns[i]);
            }
            unit = other.unit;
            bear = other.bear;
        }

        void thicken(int s, int e) {
            int gaps = size - 1;
            if (gaps < 1) {
                return;
            }
            for (int i = 0; i < size && i < MOST_PIECES; i++) {
                thicks[i] = s + (e - s) * i / gaps;
            }
        }

        int told(int i, int what) {
            if (!has(i)) {
                return 0;
            }
            switch (what) {
                case 0:
                    return widths[i];
                case 1:
                    return thicks[i];
                case 2:
                    return teeth[i];
                case 3:
                    return owns[i];
                default:
                    return stiffness(i);
            }
        }

        private int stiffness(int i) {
            return has(i) ? (widths[i] - teeth[i]) * thicks[i] * thicks[i] * thicks[i] : 0;
        }

        int curve(int a, int b, int i) {
            int gaps = size - 1;
            int stiff = stiffness(i);
            if (gaps < 1 || stiff < 1 || !has(i)) {
                return 0;
            }
            int turned = (a * (gaps - i) + b * i) / gaps;
            return within(turned * 1000 / stiff + owns[i], MOST_CURVE);
        }

        int strain(int a, int b, int i) {
            return has(i) ? Math.abs(curve(a, b, i)) * thicks[i] : 0;
        }

        void readFrom(Tokens t) {
            for (int line = 0; line < MOST_TAPE && t.isGoingOn(); line++) {
                readLine(t);
                t.mustBeSign(';');
            }
            if (size < LEAST_PIECES) {
                t.fail(1);
            }
            fillUntold();
        }

        private void readLine(Tokens t) {
            if (t.skipWord("piece")) {
                readPieces(t);
            } else if (t.isWord("unit")) {
                unit = readOnce(t, unit);
            } else if (t.isWord("bear")) {
                bear = readOnce(t, bear);
            } else {
                t.fail(1);
            }
        }

        private static int readOnce(Tokens t, int toldBefore) {
            if (toldBefore != 0) {
                t.fail(3);
                return toldBefore;
            }
            t.advance();
            return t.number(1, MOST_TOLD, MOST_TOLD);
        }

        private void readPieces(Tokens t) {
            int alike = t.number(1, MOST_PIECES, MOST_PIECES - size);
            int width = t.number(1, 99, 99);
            int thick = t.number(1, MOST_THICK, MOST_THICK);
            int deepest = Math.min(9, width - 1);
            int tooth = t.skipWord("teeth") ? t.number(0, deepest, deepest) : 0;
            int own = t.skipWord("own") ? signed(t.skipSign('-'), t.number(0, 99, 99)) : 0;
            if (t.fault == 0) {
                addAlike(alike, width, thick, tooth, own);
            }
        }
    }

    /** The BENDS of all TICKS. */
    private static final class Hand {
        private final int[] knees = new int[MOST_TICKS];
        private final int[] tips = new int[MOST_TICKS];
        private int size = 0;
        private int a = 0;
        private int b = 0;

        int knee(int t) {
            return t < 1 || t > size || t > MOST_TICKS ? 0 : knees[t - 1];
        }

        int tip(int t) {
            return t < 1 || t > size || t > MOST_TICKS ? 0 : tips[t - 1];
        }

        void readFrom(Tokens t) {
            for (int line = 0; line < MOST_TAPE && t.isGoingOn(); line++) {
                readMove(t);
                t.mustBeSign(';');
            }
        }

        private void readMove(Tokens t) {
            if (t.skipWord("at")) {
                a = signed(t.skipSign('-'), t.number(0, MOST_BEND, MOST_BEND));
                b = signed(t.skipSign('-'), t.number(0, MOST_BEND, MOST_BEND));
            } else if (t.skipWord("to")) {
                int toA = signed(t.skipSign('-'), t.number(0, MOST_BEND, MOST_BEND));
                int toB = signed(t.skipSign('-'), t.number(0, MOST_BEND, MOST_BEND));
                t.mustBeWord("in");
                move(toA, toB, readTicks(t));
            } else if (t.skipWord("shake")) {
                int by = t.number(0, MOST_SHAKE, MOST_SHAKE);
                t.mustBeWord("in");
                shake(by, readTicks(t));
            } else if (t.skipWord("wait")) {
                move(a, b, readTicks(t));
            } else {
                t.fail(1);
            }
        }

        private int readTicks(Tokens t) {
            return t.number(1, 99, MOST_TICKS - size);
        }

        private void move(int toA, int toB, int ticks) {
            if (ticks < 1) {
                return;
            }
            for (int j = 1; j <= ticks; j++) {
                pass(a + (toA - a) * j / ticks, b + (toB - b) * j / ticks);
            }
            a = toA;
            b = toB;
        }

        private void shake(int by, int ticks) {
            for (int j = 1; j <= ticks; j++) {
                int off = 0;
                if (j % 4 == 1) {
                    off = by;
                } else if (j % 4 == 3) {
                    off = -by;
                }
                pass(a, within(b + off, MOST_BEND));
            }
        }

        private void pass(int tickA, int tickB) {
            if (size >= 0 && size < MOST_TICKS) {
                knees[size] = tickA;
                tips[size] = tickB;
                size++;
            }
        }
    }

    /** BENDS that were written. */
    private static final class Book {
        private final Row knees = new Row(MOST_BENDS);
        private final Row tips = new Row(MOST_BENDS);
        private int size = 0;

        void add(int a, int b) {
            if (size < MOST_BENDS) {
                knees.add(a);
                tips.add(b);
                size++;
            }
        }

        void copyFrom(Book other) {
            knees.copyFrom(other.knees);
            tips.copyFrom(other.tips);
            size = other.size;
        }

        int way(int j, int k) {
            return Math.abs(knees.at(j) - knees.at(k)) + Math.abs(tips.at(j) - tips.at(k));
        }
    }

    /** What an image keeps. */
    private static final class State {
        private Blade blade;
        private Hand hand;
        private Sentence sentence;
        private final Book book = new Book();
        private final Blade[] shelf = new Blade[SHELF_PLACES];

        State(Blade blade, Hand hand, Sentence sentence) {
            this.blade = blade;
            this.hand = hand;
            this.sentence = sentence;
        }

        void copyFrom(State other) {
            blade = other.blade;
            hand = other.hand;
            sentence = other.sentence;
            book.copyFrom(other.book);
            for (int k = 0; k < SHELF_PLACES; k++) {
                shelf[k] = other.shelf[k];
            }
        }
    }

    /** A TONE that was found, and how strong it is where it is bowed. */
    private static final class Tone {
        private final Row strengths = new Row(MOST_PIECES);
        private int pitch = 0;
        private int first = 0;
        private int last = 0;
        private int rings = 0;
        private boolean kept = false;
        private boolean twice = false;
    }

    /** A BLADE with a BEND: its WALLS and PLACES, its TONES and its VOICE. */
    private static final class Bent {
        // 2000 tones are told apart by eleven.
        private static final int MOST_HALVINGS = 20;

        private final int[] heights = new int[MOST_PIECES];
        private final int[] walls = new int[MOST_PIECES];
        private final Row places = new Row(MOST_PIECES);
        private int size = 0;
        private int unit = 0;
        private int brokenAt = NONE;
        private int mostStrain = 0;
        private int voice = 0;
        private int voicePiece = NO_PIECE;
        private int voiceRings = 0;
        private boolean voiceTwice = false;

        void bendTo(Blade blade, int a, int b) {
            size = Math.min(blade.size, MOST_PIECES);
            unit = blade.unit;
            brokenAt = NONE;
            mostStrain = 0;
            for (int i = 0; i < size; i++) {
                int curve = blade.curve(a, b, i);
                int strain = Math.abs(curve) * blade.thicks[i];
                heights[i] = Math.abs(curve);
                walls[i] = curve * curve;
                mostStrain = Math.max(mostStrain, strain);
                if (brokenAt == NONE && strain > blade.bear) {
                    brokenAt = i;
                }
            }
            places.clear();
            for (int i = 0; i < size; i++) {
                if (isPlace(i)) {
                    places.add(i);
                }
            }
        }

        private boolean isPlace(int i) {
            if (i > 0 && walls[i] >= walls[i - 1]) {
                return false;
            }
            int behind = i + 1;
            while (behind < size && walls[behind] == walls[i]) {
                behind++;
            }
            return behind >= size || walls[behind] > walls[i];
        }

        /** The TONE of PLACE k, told into a record that stays as it is if there is none. */
        boolean sound(int k, int humps, Tone into) {
            if (k < 0 || k >= places.size || humps < 0 || humps > MOST_HUMPS || brokenAt != NONE) {
                return false;
            }
            int p = places.at(k);
            int f = leastTone(p, (2 * humps + 1) * unit, MOST_TONE);
            if (f == 0) {
                return false;
            }
            into.pitch = f;
            into.first = firstOfRun(p, f);
            into.last = lastOfRun(p, f);
            into.kept = into.first > 0 && into.last < size - 1;
            into.twice = isTwice(into.first, into.last);
            into.rings = into.kept ? rings(into.first, into.last, f) : 0;
            tellStrengths(into);
            return true;
        }

        void listen() {
            voice = 0;
            voicePiece = NO_PIECE;
            voiceRings = 0;
            voiceTwice = false;
            if (brokenAt != NONE) {
                return;
            }
            int longest = NONE;
            for (int k = 0; k < places.size; k++) {
                int p = places.at(k);
                int f = leastTone(p, unit, mostKept(p));
                if (f > 0) {
                    int first = firstOfRun(p, f);
                    int last = lastOfRun(p, f);
                    int rings = rings(first, last, f);
                    if (rings > longest) {
                        longest = rings;
                        voice = f;
                        voicePiece = p;
                        voiceRings = rings;
                        voiceTwice = isTwice(first, last);
                    }
                }
            }
        }

        /** The highest tone that still meets a WALL on both sides of PIECE p: what is KEPT there is no higher. */
        private int mostKept(int p) {
            int ahead = 0;
            for (int i = 0; i < p && i < size; i++) {
                ahead = Math.max(ahead, heights[i]);
            }
            int behind = 0;
            for (int i = Math.max(0, p + 1); i < size; i++) {
                behind = Math.max(behind, heights[i]);
            }
            return Math.min(ahead, behind);
        }

        /**
         * The least f up to most with enough PHASES round PIECE p; 0 without one. With a higher f the
         * RUN is no shorter and no PHASE is less, so the search may halve.
         */
        private int leastTone(int p, int need, int most) {
            if (p < 0 || p >= size) {
                return 0;
            }
            int low = heights[p] + 1;
            int high = Math.min(most, enoughAlone(p, need));
            if (low > high || !reaches(p, high, need)) {
                return 0;
            }
            for (int halving = 0; halving < MOST_HALVINGS && low < high; halving++) {
                int middle = (low + high) / 2;
                if (reaches(p, middle, need)) {
                    high = middle;
                } else {
                    low = middle + 1;
                }
            }
            return low;
        }

        /** An f with which the PHASE of PIECE p alone is enough, if a tone may be so high: no need to search above it. */
        private int enoughAlone(int p, int need) {
            if (need >= MOST_TONE || walls[p] + need * need >= MOST_TONE * MOST_TONE) {
                return MOST_TONE;
            }
            return root(walls[p] + need * need) + 1;
        }

        private boolean reaches(int p, int f, int need) {
            int square = f * f;
            int sum = root(square - walls[p]);
            for (int i = p - 1; i >= 0 && sum < need && walls[i] < square; i--) {
                sum += root(square - walls[i]);
            }
            for (int i = p + 1; i < size && sum < need && walls[i] < square; i++) {
                sum += root(square - walls[i]);
            }
            return sum >= need;
        }

        private int firstOfRun(int p, int f) {
            int first = p;
            while (first > 0 && first <= size && walls[first - 1] < f * f) {
                first--;
            }
            return first;
        }

        private int lastOfRun(int p, int f) {
            int last = p;
            while (last >= 0 && last < size - 1 && walls[last + 1] < f * f) {
                last++;
            }
            return last;
        }

        private boolean isTwice(int first, int last) {
            int inside = 0;
            for (int k = 0; k < places.size; k++) {
                int p = places.at(k);
                if (p >= first && p <= last) {
                    inside++;
                }
            }
            return inside > 1;
        }

        private int rings(int first, int last, int f) {
            int ahead = 0;
            for (int i = 0; i < first && i < size; i++) {
                ahead += root(walls[i] - f * f);
            }
            int behind = 0;
            for (int i = Math.max(0, last + 1); i < size; i++) {
                behind += root(walls[i] - f * f);
            }
            return Math.min(ahead, behind);
        }

        private void tellStrengths(Tone into) {
            int square = into.pitch * into.pitch;
            int whole = Math.max(1, 2 * unit);
            int ahead = 0;
            into.strengths.clear();
            for (int i = 0; i < size; i++) {
                int strength = 0;
                if (i >= into.first && i <= into.last) {
                    int phase = root(square - walls[i]);
                    int rest = (ahead + phase / 2) % whole;
                    strength = Math.min(rest, whole - rest);
                    ahead += phase;
                }
                into.strengths.add(strength);
            }
        }

        /** The root, cut; 0 of what is not above 0. Roots here stay below 2048. */
        private static int root(int square) {
            int found = 0;
            for (int bit = square < 16384 ? 64 : 1024; bit > 0; bit = bit / 2) {
                if ((found + bit) * (found + bit) <= square) {
                    found += bit;
                }
            }
            return found;
        }
    }

    /** Notes, and the row of BENDS that plays them with the least moving. */
    private static final class Song {
        private final int[] costs = new int[MOST_NOTES * MOST_BENDS];
        private final Row notes = new Row(MOST_NOTES);
        private final Row bends = new Row(MOST_NOTES);

        boolean readNotes(Tape tape) {
            notes.clear();
            if (tape.size < 2 || tape.size > 2 * MOST_NOTES || tape.size % 2 != 0) {
                return false;
            }
            for (int i = 0; i < tape.size; i += 2) {
                if (!isTone(tape.pairAt(i))) {
                    return false;
                }
                notes.add(tape.pairAt(i));
            }
            return true;
        }

        int play(Book book, Row voices, int slip) {
            for (int i = notes.size - 1; i >= 0; i--) {
                for (int k = 0; k < book.size; k++) {
                    boolean isFit = isNear(voices.at(k), notes.at(i), slip);
                    setCost(i, k, isFit ? costFrom(book, i, k) : NONE);
                }
            }
            int start = cheapestNext(book, -1, NONE);
            if (start == NONE) {
                return NONE;
            }
            bends.clear();
            bends.add(start);
            for (int i = 0; i < notes.size - 1; i++) {
                bends.add(cheapestNext(book, i, bends.at(i)));
            }
            return costAt(0, start);
        }

        /** How much is moved from note i, played with BEND k, to the last note. */
        private int costFrom(Book book, int i, int k) {
            if (i >= notes.size - 1) {
                return 0;
            }
            int next = cheapestNext(book, i, k);
            return next == NONE ? NONE : book.way(k, next) + costAt(i + 1, next);
        }

        /** The BEND for the note behind note i, played with BEND k (ahead of the first note there is none). */
        private int cheapestNext(Book book, int i, int k) {
            int best = NONE;
            int least = 0;
            for (int next = 0; next < book.size; next++) {
                int rest = costAt(i + 1, next);
                if (rest != NONE) {
                    int cost = rest + (k == NONE ? 0 : book.way(k, next));
                    if (best == NONE || cost < least) {
                        best = next;
                        least = cost;
                    }
                }
            }
            return best;
        }

        private int costAt(int i, int k) {
            int at = i * MOST_BENDS + k;
            return at < 0 || at >= costs.length ? NONE : costs[at];
        }

        private void setCost(int i, int k, int cost) {
            int at = i * MOST_BENDS + k;
            if (at >= 0 && at < costs.length) {
                costs[at] = cost;
            }
        }
    }

    /** A COND as steps on a stack of truths: leaves put one on it, the others take from it and put one back. */
    private static final class Sentence {
        private static final int TONE = 0;
        private static final int PLACE = 1;
        private static final int RINGS = 2;
        private static final int STRAIN = 3;
        private static final int PLACES = 4;
        private static final int TICK = 5;
        private static final int SINGS = 6;
        private static final int BROKEN = 7;
        private static final int TWICE = 8;
        private static final int NOT = 9;
        private static final int AND = 10;
        private static final int OR = 11;
        private static final int MOST_ONES = 20;
        private static final int MOST_WITHIN = 8;

        private final Row kinds = new Row(2 * MOST_ONES);
        private final Row signs = new Row(2 * MOST_ONES);
        private final Row numbers = new Row(2 * MOST_ONES);
        private int ones = 0;

        void readFrom(Tokens t) {
            readCond(t, 1);
            if (t.isGoingOn()) {
                t.fail(1);
            }
        }

        private void readCond(Tokens t, int depth) {
            readAll(t, depth);
            for (int more = 0; more < MOST_ONES && t.skipWord("or"); more++) {
                readAll(t, depth);
                addStep(OR, 0, 0);
            }
        }

        private void readAll(Tokens t, int depth) {
            readOne(t, depth);
            for (int more = 0; more < MOST_ONES && t.skipWord("and"); more++) {
                readOne(t, depth);
                addStep(AND, 0, 0);
            }
        }

        private void readOne(Tokens t, int depth) {
            int leaf = leafAt(t);
            if (leaf == NONE && !t.isWord("not") && !t.isSign('(')) {
                t.fail(1);
            } else if (ones >= MOST_ONES || depth > MOST_WITHIN) {
                t.fail(4);
            }
            if (t.fault != 0) {
                return;
            }
            ones++;
            if (t.skipWord("not")) {
                readOne(t, depth + 1);
                addStep(NOT, 0, 0);
            } else if (t.skipSign('(')) {
                readCond(t, depth + 1);
                if (!t.skipSign(')')) {
                    t.fail(1);
                }
            } else if (leaf >= SINGS) {
                t.advance();
                addStep(leaf, 0, 0);
            } else {
                t.advance();
                addStep(leaf, t.comparison(), t.number(0, MOST_TOLD, MOST_TOLD));
            }
        }

        private static int leafAt(Tokens t) {
            if (t.isWord("tone")) {
                return TONE;
            }
            if (t.isWord("place")) {
                return PLACE;
            }
            if (t.isWord("rings")) {
                return RINGS;
            }
            if (t.isWord("strain")) {
                return STRAIN;
            }
            if (t.isWord("places")) {
                return PLACES;
            }
            if (t.isWord("tick")) {
                return TICK;
            }
            if (t.isWord("sings")) {
                return SINGS;
            }
            if (t.isWord("broken")) {
                return BROKEN;
            }
            return t.isWord("twice") ? TWICE : NONE;
        }

        private void addStep(int kind, int sign, int number) {
            kinds.add(kind);
            signs.add(sign);
            numbers.add(number);
        }

        /** The stack is the bits of a number, its top the lowest: with 20 ONES it never has more than 20. */
        boolean holds(Bent bent, int tick) {
            int stack = 0;
            for (int i = 0; i < kinds.size; i++) {
                int top = stack & 1;
                switch (kinds.at(i)) {
                    case NOT:
                        stack = stack ^ 1;
                        break;
                    case AND:
                        stack = stack >>> 1 & (top | ~1);
                        break;
                    case OR:
                        stack = stack >>> 1 | top;
                        break;
                    default:
                        stack = stack << 1 | (isSo(i, bent, tick) ? 1 : 0);
                        break;
                }
            }
            return (stack & 1) == 1;
        }

        private boolean isSo(int i, Bent bent, int tick) {
            switch (kinds.at(i)) {
                case TONE:
                    return compares(bent.voice, i);
                case PLACE:
                    return compares(bent.voicePiece, i);
                case RINGS:
                    return compares(bent.voiceRings, i);
                case STRAIN:
                    return compares(bent.mostStrain, i);
                case PLACES:
                    return compares(bent.places.size, i);
                case TICK:
                    return compares(tick, i);
                case SINGS:
                    return bent.voice > 0;
                case BROKEN:
                    return bent.brokenAt != NONE;
                default:
                    return bent.voiceTwice;
            }
        }

        private boolean compares(int value, int i) {
            int number = numbers.at(i);
            if (signs.at(i) == '<') {
                return value < number;
            }
            return signs.at(i) == '>' ? value > number : value == number;
        }
    }
}
