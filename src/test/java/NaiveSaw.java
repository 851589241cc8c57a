import java.util.ArrayList;
import java.util.HashMap;
import java.util.List;
import java.util.Map;
import java.util.NoSuchElementException;
import java.util.function.BiPredicate;

/**
 * The document once more, as slowly and as plainly as can be: every tone is tried, nothing is kept
 * between calls but what the document keeps. ModelTest compares SingingSaw with it.
 */
final class NaiveSaw {
    private static final class Fault extends RuntimeException {
        private static final long serialVersionUID = 1L;
        final int place;
        final int kind;

        Fault(int place, int kind) {
            this.place = place;
            this.kind = kind;
        }
    }

    private record Piece(int width, int thick, int teeth, int own) {
        int stiffness() {
            return (width - teeth) * thick * thick * thick;
        }
    }

    private record Blade(List<Piece> pieces, int unit, int bear) {
    }

    private record Bend(int a, int b) {
    }

    private record Found(int place, int f, int first, int last, boolean kept, boolean twice, int rings, List<Integer> strengths) {
    }

    private record Kept(Blade blade, List<Bend> hand, List<Bend> book, List<Blade> shelf, BiPredicate<NaiveSaw, Integer> sentence) {
    }

    private record Token(int place, String text) {
    }

    private final List<Integer> tape = new ArrayList<>();
    private Blade blade;
    private List<Bend> hand = new ArrayList<>();
    private List<Bend> book = new ArrayList<>();
    private List<Blade> shelf = new ArrayList<>(java.util.Arrays.asList(null, null, null, null));
    private BiPredicate<NaiveSaw, Integer> sentence = null;
    private final Kept[] images = new Kept[2];
    private int fault = 0;
    private Found latest = null;
    private int worth = 0;
    private List<Integer> song = new ArrayList<>();
    private List<Integer> reads = new ArrayList<>();
    private List<Integer> evens = new ArrayList<>();
    private int formBy = -1;
    // Speed alone: the VOICE of a BLADE (by what it is) with a BEND never changes.
    private static final Map<Blade, Map<Bend, Integer>> KNOWN = new HashMap<>();

    NaiveSaw() {
        Piece p = new Piece(30, 5, 0, 0);
        blade = new Blade(List.of(p, p, p), 300, 2000);
    }

    int feed(int a, int b, int c, int d, int e) {
        if (tape.size() > 520) {
            return -1;
        }
        for (int number : new int[] {a, b, c, d, e}) {
            for (byte x : java.nio.ByteBuffer.allocate(4).putInt(number).array()) {
                tape.add(x & 255);
            }
        }
        return tape.size();
    }

    boolean end(int n) {
        if (n < 0 || n > tape.size()) {
            return false;
        }
        while (tape.size() > n) {
            tape.remove(tape.size() - 1);
        }
        return true;
    }

    // ---- texts

    private List<Token> tokens = new ArrayList<>();
    private int next = 0;

    /** All TOKENS that begin ahead of the limit, "?" for what is none, and "" (the end) or "?" (too long). */
    private void tokenize(int limit) {
        StringBuilder text = new StringBuilder();
        for (int c : tape) {
            text.append((char) c);
        }
        tape.clear();
        tokens = new ArrayList<>();
        next = 0;
        java.util.regex.Matcher m = java.util.regex.Pattern.compile("[a-z0-9]+|[^ \\n]", java.util.regex.Pattern.DOTALL).matcher(text);
        while (m.find() && m.start() < limit) {
            String t = m.group();
            tokens.add(new Token(m.start(), t.matches("[a-z]{1,6}|[0-9]{1,4}|[-;<=>().]") ? t : "?"));
        }
        tokens.add(text.length() > limit ? new Token(limit, "?") : new Token(text.length(), ""));
    }

    private Token peek() {
        return tokens.get(next);
    }

    private boolean accept(String text) {
        if (peek().text.equals(text)) {
            next++;
            return true;
        }
        return false;
    }

    private void expect(String text) {
        if (!accept(text)) {
            throw new Fault(peek().place, 1);
        }
    }

    private int number(int low, int high) {
        if (!peek().text.matches("[0-9]+")) {
            throw new Fault(peek().place, 1);
        }
        int value = Integer.parseInt(peek().text);
        if (value < low || value > high) {
            throw new Fault(peek().place, 2);
        }
        next++;
        return value;
    }

    private int signed(int most) {
        int sign = accept("-") ? -1 : 1;
        return sign * number(0, most);
    }

    int blade() {
        tokenize(500);
        try {
            List<Piece> pieces = new ArrayList<>();
            int unit = 0;
            int bear = 0;
            while (!peek().text.isEmpty()) {
                int place = peek().place;
                if (accept("piece")) {
                    place = peek().place;
                    int n = number(1, 60);
                    if (pieces.size() + n > 60) {
                        throw new Fault(place, 4);
                    }
                    int w = number(1, 99);
                    int th = number(1, 20);
                    int te = 0;
                    if (accept("teeth")) {
                        place = peek().place;
                        te = number(0, 9);
                        if (te >= w) {
                            throw new Fault(place, 2);
                        }
                    }
                    int own = accept("own") ? signed(99) : 0;
                    for (int i = 0; i < n; i++) {
                        pieces.add(new Piece(w, th, te, own));
                    }
                } else if (accept("unit")) {
                    if (unit > 0) {
                        throw new Fault(place, 3);
                    }
                    unit = number(1, 9999);
                } else if (accept("bear")) {
                    if (bear > 0) {
                        throw new Fault(place, 3);
                    }
                    bear = number(1, 9999);
                } else {
                    throw new Fault(place, 1);
                }
                expect(";");
            }
            if (pieces.size() < 3) {
                throw new Fault(peek().place, 1);
            }
            blade = new Blade(pieces, unit == 0 ? 300 : unit, bear == 0 ? 2000 : bear);
            fault = 0;
            return pieces.size();
        } catch (Fault f) {
            fault = f.kind;
            return -1 - f.place;
        }
    }

    int hand() {
        tokenize(300);
        try {
            List<Bend> ticks = new ArrayList<>();
            int a = 0;
            int b = 0;
            while (!peek().text.isEmpty()) {
                if (accept("at")) {
                    a = signed(9999);
                    b = signed(9999);
                } else if (accept("to")) {
                    int toA = signed(9999);
                    int toB = signed(9999);
                    expect("in");
                    int t = ticks(ticks);
                    for (int j = 1; j <= t; j++) {
                        ticks.add(new Bend(a + (toA - a) * j / t, b + (toB - b) * j / t));
                    }
                    a = toA;
                    b = toB;
                } else if (accept("shake")) {
                    int by = number(0, 999);
                    expect("in");
                    int t = ticks(ticks);
                    int[] off = {0, by, 0, -by};
                    for (int j = 1; j <= t; j++) {
                        ticks.add(new Bend(a, clamp(b + off[j % 4], 9999)));
                    }
                } else if (accept("wait")) {
                    int t = ticks(ticks);
                    for (int j = 1; j <= t; j++) {
                        ticks.add(new Bend(a, b));
                    }
                } else {
                    throw new Fault(peek().place, 1);
                }
                expect(";");
            }
            hand = ticks;
            fault = 0;
            return ticks.size();
        } catch (Fault f) {
            fault = f.kind;
            return -1 - f.place;
        }
    }

    private int ticks(List<Bend> sofar) {
        int place = peek().place;
        int t = number(1, 99);
        if (sofar.size() + t > 200) {
            throw new Fault(place, 4);
        }
        return t;
    }

    private int ones;

    int sentence() {
        tokenize(200);
        try {
            ones = 0;
            BiPredicate<NaiveSaw, Integer> read = cond(0);
            if (!peek().text.isEmpty()) {
                throw new Fault(peek().place, 1);
            }
            sentence = read;
            fault = 0;
            return ones;
        } catch (Fault f) {
            fault = f.kind;
            return -1 - f.place;
        }
    }

    private BiPredicate<NaiveSaw, Integer> cond(int outside) {
        BiPredicate<NaiveSaw, Integer> left = all(outside);
        return accept("or") ? left.or(cond(outside)) : left;
    }

    private BiPredicate<NaiveSaw, Integer> all(int outside) {
        BiPredicate<NaiveSaw, Integer> left = one(outside);
        return accept("and") ? left.and(all(outside)) : left;
    }

    private BiPredicate<NaiveSaw, Integer> one(int outside) {
        Token t = peek();
        if (!List.of("not", "(", "tone", "place", "rings", "strain", "places", "tick", "sings", "broken", "twice").contains(t.text)) {
            throw new Fault(t.place, 1);
        }
        if (ones == 20 || outside == 8) {
            throw new Fault(t.place, 4);
        }
        ones++;
        next++;
        switch (t.text) {
            case "not":
                return one(outside + 1).negate();
            case "(":
                BiPredicate<NaiveSaw, Integer> inner = cond(outside + 1);
                expect(")");
                return inner;
            case "sings":
                return (x, tick) -> x.voiceOf(x.blade, x.hand.get(tick - 1)) != null;
            case "broken":
                return (x, tick) -> x.broken(x.blade, x.hand.get(tick - 1));
            case "twice":
                return (x, tick) -> {
                    Found v = x.voiceOf(x.blade, x.hand.get(tick - 1));
                    return v != null && v.twice;
                };
            default:
                String sign = peek().text;
                if (!List.of("<", "=", ">").contains(sign)) {
                    throw new Fault(peek().place, 1);
                }
                next++;
                int number = number(0, 9999);
                return (x, tick) -> {
                    int value = x.valueOf(t.text, tick);
                    return sign.equals("<") ? value < number : sign.equals(">") ? value > number : value == number;
                };
        }
    }

    private int valueOf(String what, int tick) {
        Bend bend = hand.get(tick - 1);
        Found v = voiceOf(blade, bend);
        switch (what) {
            case "tone":
                return v == null ? 0 : v.f;
            case "place":
                return v == null ? 99 : v.place;
            case "rings":
                return v == null ? 0 : v.rings;
            case "strain":
                int most = 0;
                for (int i = 0; i < blade.pieces.size(); i++) {
                    most = Math.max(most, strain(blade, bend, i));
                }
                return most;
            case "places":
                return places(blade, bend).size();
            default:
                return tick;
        }
    }

    int fault() {
        return fault;
    }

    // ---- bends

    private static int clamp(int x, int most) {
        return Math.max(-most, Math.min(most, x));
    }

    private static int curve(Blade x, Bend bend, int i) {
        int n = x.pieces.size();
        long turned = ((long) bend.a * (n - 1 - i) + (long) bend.b * i) / (n - 1);
        return clamp((int) (turned * 1000 / x.pieces.get(i).stiffness()) + x.pieces.get(i).own, 2000);
    }

    private static int strain(Blade x, Bend bend, int i) {
        return Math.abs(curve(x, bend, i)) * x.pieces.get(i).thick;
    }

    private static int wall(Blade x, Bend bend, int i) {
        return curve(x, bend, i) * curve(x, bend, i);
    }

    private static int firstBroken(Blade x, Bend bend) {
        for (int i = 0; i < x.pieces.size(); i++) {
            if (strain(x, bend, i) > x.bear) {
                return i;
            }
        }
        return -1;
    }

    private boolean broken(Blade x, Bend bend) {
        return firstBroken(x, bend) >= 0;
    }

    private static List<Integer> places(Blade x, Bend bend) {
        List<Integer> places = new ArrayList<>();
        int n = x.pieces.size();
        for (int i = 0; i < n; i++) {
            boolean place = i == 0 || wall(x, bend, i) < wall(x, bend, i - 1);
            for (int j = i + 1; j < n; j++) {
                if (wall(x, bend, j) != wall(x, bend, i)) {
                    place = place && wall(x, bend, j) > wall(x, bend, i);
                    break;
                }
            }
            if (place) {
                places.add(i);
            }
        }
        return places;
    }

    private static int root(int square) {
        return square <= 0 ? 0 : (int) Math.floor(Math.sqrt(square));
    }

    /** Tries every f from 1 on. */
    private Found toneOf(Blade x, Bend bend, int k, int m) {
        List<Integer> places = places(x, bend);
        if (k < 0 || k >= places.size() || m < 0 || m > 5 || broken(x, bend)) {
            return null;
        }
        int n = x.pieces.size();
        int[] walls = new int[n];
        for (int i = 0; i < n; i++) {
            walls[i] = wall(x, bend, i);
        }
        int p = places.get(k);
        for (int f = 1; f <= 2000; f++) {
            if (f * f <= walls[p]) {
                continue;
            }
            int first = p;
            while (first > 0 && f * f > walls[first - 1]) {
                first--;
            }
            int last = p;
            while (last < n - 1 && f * f > walls[last + 1]) {
                last++;
            }
            int sum = 0;
            for (int i = first; i <= last; i++) {
                sum += root(f * f - walls[i]);
            }
            if (sum >= (2 * m + 1) * x.unit) {
                return describe(x, walls, places, p, f, first, last);
            }
        }
        return null;
    }

    private Found describe(Blade x, int[] walls, List<Integer> places, int p, int f, int first, int last) {
        int n = walls.length;
        boolean kept = first > 0 && last < n - 1;
        int ahead = 0;
        int behind = 0;
        boolean twice = false;
        List<Integer> strengths = new ArrayList<>();
        int phases = 0;
        for (int i = 0; i < n; i++) {
            int rest = root(walls[i] - f * f);
            ahead += i < first ? rest : 0;
            behind += i > last ? rest : 0;
            int strength = 0;
            if (i >= first && i <= last) {
                twice = twice || i != p && places.contains(i);
                int own = root(f * f - walls[i]);
                int r = (phases + own / 2) % (2 * x.unit);
                strength = Math.min(r, 2 * x.unit - r);
                phases += own;
            }
            strengths.add(strength);
        }
        return new Found(p, f, first, last, kept, twice, kept ? Math.min(ahead, behind) : 0, strengths);
    }

    private Found voiceOf(Blade x, Bend bend) {
        Map<Bend, Integer> known = KNOWN.computeIfAbsent(x, y -> new HashMap<>());
        Integer k = known.get(bend);
        if (k == null) {
            k = -1;
            int rings = -1;
            for (int i = 0; i < places(x, bend).size(); i++) {
                Found t = toneOf(x, bend, i, 0);
                if (t != null && t.kept && t.rings > rings) {
                    rings = t.rings;
                    k = i;
                }
            }
            known.put(bend, k);
        }
        return k < 0 ? null : toneOf(x, bend, k, 0);
    }

    private final Map<Blade, Map<Bend, Integer>> pitches = new HashMap<>();

    /** 0 without a VOICE. */
    private int pitch(Blade x, Bend bend) {
        return pitches.computeIfAbsent(x, y -> new HashMap<>()).computeIfAbsent(bend, y -> {
            Found v = voiceOf(x, y);
            return v == null ? 0 : v.f;
        });
    }

    static void forget() {
        KNOWN.clear();
    }

    private static boolean isBend(int a, int b) {
        return Math.abs((long) a) <= 9999 && Math.abs((long) b) <= 9999;
    }

    int piece(int i, int what) {
        if (i < 0 || i >= blade.pieces.size() || what < 0 || what > 4) {
            throw new NoSuchElementException();
        }
        Piece p = blade.pieces.get(i);
        return new int[] {p.width, p.thick, p.teeth, p.own, p.stiffness()}[what];
    }

    int bend(int a, int b, int i, int what) {
        if (!isBend(a, b) || i < 0 || i >= blade.pieces.size() || what < 0 || what > 1) {
            throw new NoSuchElementException();
        }
        return what == 0 ? curve(blade, new Bend(a, b), i) : strain(blade, new Bend(a, b), i);
    }

    int breaks(int a, int b) {
        return isBend(a, b) ? firstBroken(blade, new Bend(a, b)) : -2;
    }

    int place(int a, int b, int k) {
        if (!isBend(a, b)) {
            return -1;
        }
        List<Integer> places = places(blade, new Bend(a, b));
        return k == -1 ? places.size() : k < 0 || k >= places.size() ? -1 : places.get(k);
    }

    int tone(int a, int b, int k, int m) {
        Found t = isBend(a, b) ? toneOf(blade, new Bend(a, b), k, m) : null;
        latest = t == null ? latest : t;
        return t == null ? -1 : t.f;
    }

    int run(int what) {
        if (latest == null || what < 0 || what > 4) {
            return -1;
        }
        return new int[] {latest.first, latest.last, latest.kept ? 1 : 0, latest.twice ? 1 : 0, latest.rings}[what];
    }

    int bow(int i) {
        return latest == null || i < 0 || i >= latest.strengths.size() ? -1 : latest.strengths.get(i);
    }

    int where(int a, int b, int k, int m, int o) {
        Found yes = isBend(a, b) ? toneOf(blade, new Bend(a, b), k, m) : null;
        Found no = isBend(a, b) ? toneOf(blade, new Bend(a, b), k, o) : null;
        if (yes == null || no == null) {
            return -1;
        }
        int best = -1;
        for (int i = 0; i < blade.pieces.size(); i++) {
            int d = yes.strengths.get(i) - no.strengths.get(i);
            if (best < 0 || d > worth) {
                best = i;
                worth = d;
            }
        }
        return best;
    }

    int worth() {
        return worth;
    }

    int tick(int t, int what) {
        if (t < 1 || t > hand.size() || what < 0 || what > 4) {
            throw new NoSuchElementException();
        }
        Bend bend = hand.get(t - 1);
        Found v = voiceOf(blade, bend);
        return new int[] {bend.a, bend.b, v == null ? 0 : v.f, v == null ? 99 : v.place, v == null ? 0 : v.rings}[what];
    }

    // ---- books

    int write(int a, int b) {
        if (book.size() == 40 || !isBend(a, b)) {
            return -1;
        }
        book.add(new Bend(a, b));
        return book.size() - 1;
    }

    int voice(int k, int what) {
        if (k < 0 || k >= book.size() || what < 0 || what > 1) {
            return -1;
        }
        Found v = voiceOf(blade, book.get(k));
        return what == 0 ? v == null ? 0 : v.f : v == null ? 99 : v.place;
    }

    int range(int what) {
        int[] answers = {-1, -1, -1, -1};
        for (int k = 0; k < book.size(); k++) {
            int f = pitch(blade, book.get(k));
            if (f > 0 && (answers[0] < 0 || f < answers[0])) {
                answers[0] = f;
                answers[2] = k;
            }
            if (f > 0 && f > answers[1]) {
                answers[1] = f;
                answers[3] = k;
            }
        }
        return what < 0 || what > 3 ? -1 : answers[what];
    }

    private record Row(int cost, List<Integer> bends) {
        boolean isBetterThan(Row other) {
            if (other == null || cost != other.cost) {
                return other == null || cost < other.cost;
            }
            for (int i = 0; i < bends.size(); i++) {
                if (!bends.get(i).equals(other.bends.get(i))) {
                    return bends.get(i) < other.bends.get(i);
                }
            }
            return false;
        }
    }

    /** From the first note on: of all rows to a BEND the best one, whole. */
    int song(int slip) {
        List<Integer> bytes = new ArrayList<>(tape);
        tape.clear();
        List<Integer> notes = new ArrayList<>();
        for (int i = 0; i + 1 < bytes.size(); i += 2) {
            notes.add(bytes.get(i) << 8 | bytes.get(i + 1));
        }
        if (bytes.size() % 2 != 0 || notes.isEmpty() || notes.size() > 60 || slip < 0 || slip > 200) {
            return -2;
        }
        for (int note : notes) {
            if (note < 1 || note > 2000) {
                return -2;
            }
        }
        Row[] best = new Row[book.size()];
        for (int i = 0; i < notes.size(); i++) {
            Row[] now = new Row[book.size()];
            for (int k = 0; k < book.size(); k++) {
                int f = pitch(blade, book.get(k));
                if (f == 0 || Math.abs(f - notes.get(i)) > slip) {
                    continue;
                }
                for (int from = 0; from < book.size(); from++) {
                    if (i > 0 && best[from] == null) {
                        continue;
                    }
                    List<Integer> bends = new ArrayList<>(i == 0 ? List.of() : best[from].bends);
                    bends.add(k);
                    int cost = i == 0 ? 0 : best[from].cost + Math.abs(book.get(from).a - book.get(k).a)
                        + Math.abs(book.get(from).b - book.get(k).b);
                    Row row = new Row(cost, bends);
                    now[k] = row.isBetterThan(now[k]) ? row : now[k];
                }
            }
            best = now;
        }
        Row whole = null;
        for (Row row : best) {
            whole = row != null && row.isBetterThan(whole) ? row : whole;
        }
        if (whole == null) {
            return -1;
        }
        song = whole.bends;
        return whole.cost;
    }

    private static int at(List<Integer> row, int i) {
        return i < 0 || i >= row.size() ? -1 : row.get(i);
    }

    int songAt(int i) {
        return at(song, i);
    }

    int read(int tone, int slip) {
        if (tone < 1 || tone > 2000 || slip < 0 || slip > 200) {
            return -1;
        }
        reads = new ArrayList<>();
        for (int k = 0; k < book.size(); k++) {
            int f = pitch(blade, book.get(k));
            if (f > 0 && Math.abs(f - tone) <= slip) {
                reads.add(k);
            }
        }
        return reads.size();
    }

    int readAt(int k) {
        return at(reads, k);
    }

    int even(int j, int k, int n) {
        if (j < 0 || j >= book.size() || k < 0 || k >= book.size() || n < 1 || n > 20) {
            return -1;
        }
        Bend from = book.get(j);
        Bend to = book.get(k);
        int low = pitch(blade, from);
        int high = pitch(blade, to);
        if (low == 0 || high == 0) {
            return -1;
        }
        evens = new ArrayList<>();
        int widest = 0;
        for (int i = 0; i <= n; i++) {
            int wanted = low + (high - low) * i / n;
            int best = -1;
            int least = 0;
            for (int part = 0; part <= 100; part++) {
                int f = pitch(blade, new Bend(from.a + (to.a - from.a) * part / 100, from.b + (to.b - from.b) * part / 100));
                if (f > 0 && (best < 0 || Math.abs(f - wanted) < least)) {
                    best = part;
                    least = Math.abs(f - wanted);
                }
            }
            if (i > 0) {
                widest = Math.max(widest, Math.abs(best - evens.get(i - 1)));
            }
            evens.add(best);
        }
        return widest;
    }

    int evenAt(int i) {
        return at(evens, i);
    }

    int tremble(int a, int b, int j) {
        if (!isBend(a, b) || j < 0 || j > 999) {
            return -1;
        }
        int x = pitch(blade, new Bend(a, clamp(b - j, 9999)));
        int y = pitch(blade, new Bend(a, b));
        int z = pitch(blade, new Bend(a, clamp(b + j, 9999)));
        return x == 0 || y == 0 || z == 0 ? -1 : Math.max(x, Math.max(y, z)) - Math.min(x, Math.min(y, z));
    }

    // ---- shelf and forms

    boolean keep(int k) {
        if (k >= 0 && k < 4) {
            shelf.set(k, blade);
        }
        return k >= 0 && k < 4;
    }

    boolean take(int k) {
        if (k < 0 || k >= 4 || shelf.get(k) == null) {
            return false;
        }
        blade = shelf.get(k);
        return true;
    }

    int which(int slip) {
        List<Integer> bytes = new ArrayList<>(tape);
        tape.clear();
        if (bytes.size() % 3 != 0 || bytes.isEmpty() || bytes.size() > 120 || slip < 0 || slip > 200) {
            return -1;
        }
        for (int i = 0; i < bytes.size(); i += 3) {
            int tone = bytes.get(i + 1) * 256 + bytes.get(i + 2);
            if (bytes.get(i) >= book.size() || tone < 1 || tone > 2000) {
                return -1;
            }
        }
        int bits = 0;
        for (int k = 0; k < 4; k++) {
            boolean fits = shelf.get(k) != null;
            for (int i = 0; fits && i < bytes.size(); i += 3) {
                int f = pitch(shelf.get(k), book.get(bytes.get(i)));
                fits = f > 0 && Math.abs(f - (bytes.get(i + 1) * 256 + bytes.get(i + 2))) <= slip;
            }
            bits += fits ? 1 << k : 0;
        }
        return bits;
    }

    private Blade formed(int s, int e) {
        List<Piece> pieces = new ArrayList<>();
        int n = blade.pieces.size();
        for (int i = 0; i < n; i++) {
            Piece p = blade.pieces.get(i);
            pieces.add(new Piece(p.width, s + (e - s) * i / (n - 1), p.teeth, p.own));
        }
        return new Blade(pieces, blade.unit, blade.bear);
    }

    int form(int low, int high) {
        if (low < 1 || high > 20 || low > high || high > low + 5 || book.isEmpty()) {
            return -2;
        }
        int best = -1;
        int most = -5;
        for (int s = low; s <= high; s++) {
            for (int e = low; e <= high; e++) {
                Blade x = formed(s, e);
                int lowest = 9999;
                int highest = -1;
                boolean sound = true;
                for (Bend bend : book) {
                    sound = sound && !broken(x, bend);
                    int f = sound ? pitch(x, bend) : 0;
                    lowest = f > 0 ? Math.min(lowest, f) : lowest;
                    highest = f > 0 ? Math.max(highest, f) : highest;
                }
                int range = highest < 0 ? -1 : highest - lowest;
                if (sound && range > most) {
                    most = range;
                    best = 100 * s + e;
                }
            }
        }
        formBy = best > 0 ? most : formBy;
        return best;
    }

    int formBy() {
        return formBy;
    }

    boolean forge(int s, int e) {
        boolean told = s >= 1 && s <= 20 && e >= 1 && e <= 20;
        blade = told ? formed(s, e) : blade;
        return told;
    }

    int said(int k) {
        if (sentence == null) {
            return -1;
        }
        List<Integer> so = new ArrayList<>();
        for (int t = 1; t <= hand.size(); t++) {
            if (sentence.test(this, t)) {
                so.add(t);
            }
        }
        return k == -1 ? so.size() : at(so, k);
    }

    boolean image(int k) {
        if (k < 0 || k > 1) {
            return false;
        }
        images[k] = new Kept(blade, hand, new ArrayList<>(book), new ArrayList<>(shelf), sentence);
        return true;
    }

    boolean restore(int k) {
        if (k < 0 || k > 1 || images[k] == null) {
            return false;
        }
        blade = images[k].blade;
        hand = images[k].hand;
        book = new ArrayList<>(images[k].book);
        shelf = new ArrayList<>(images[k].shelf);
        sentence = images[k].sentence;
        return true;
    }

    int count(int what) {
        int[] counts = {blade.pieces.size(), blade.unit, blade.bear, hand.size(), book.size(), tape.size()};
        return what < 0 || what > 5 ? -1 : counts[what];
    }
}
