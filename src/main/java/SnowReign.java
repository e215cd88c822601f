import java.util.Arrays;

/** Snowmen that govern a province till the thaw. What each call does is told in DOC.md, by promises. */
public final class SnowReign {
    public static final int BAD = -1, STATE = -2, FULL = -3, NONE = -4;

    private static final int PACKED = 1, WET = 2, ICED = 3;
    private static final int KIND = 0, SIZE = 1, LEAN = 2;
    private static final int MOST_FIGURES = 5;
    private static final int MOST_SIZE = 99;
    private static final int MOST_LEAN = 40;
    private static final int UPRIGHT = 20;
    private static final int[] MOST_OF_FIGURE = {3, 99, 40};

    private static final int WEEK_DAYS = 7;
    private static final int WARMTH = 0;
    private static final int MOST_WARMTH = 9;
    private static final int MOST_WIND = 8;
    private static final int STILL = 4;
    private static final int WARMTH_AT_FIRST = 1;
    private static final int DAY_LIMIT = 1000;

    private static final int MOST_DAYS_RUN = 30;
    private static final int MOST_DAYS_AHEAD = 60;
    private static final int NEVER_FALLS = 61;
    private static final int MOST_SALT_DAYS = 8;
    private static final int SALT_ODDS = 10;

    private static final int MOST_SEEN = 6;
    private static final int MOST_DAYS_SEEN = 30;
    private static final int MOST_DECREE = 3;
    private static final int NOBODY_SEEN = 9;
    private static final int MOST_SIZE_TOLD = 30;

    private static final int TAPE_BYTES = 160;
    private static final int MOST_BYTE = 127;
    private static final int NO_TOKEN = 1, MISPLACED = 2, OUT_OF_BOUNDS = 3, TOLD_TWICE = 4, SIXTH_FIGURE = 5;

    private static final int IMAGES = 2;
    private static final int SHEETS = 4;
    private static final int BYTES = 0, SHORTS = 1, INTS = 2, NOTHING = -1;
    private static final int MOST_CELLS = 40;
    private static final int MOST_ROLLINGS = 20;
    private static final int NULL_FAULT = 1, INDEX_FAULT = 2, CAST_FAULT = 3, SIZE_FAULT = 4;

    private final Province now;
    // What would be is tried out on these, made once, as nothing that is made is ever given back.
    private final Province trial;
    private final Figure probe;
    private final Row[] salted;
    private final int[][] decrees;

    private final TextReader reader;
    private int textFault;

    private final int[] seenDays;
    private final int[] seenDecrees;
    private int seenNumber;

    private final Province[] images;
    private final boolean[] kept;

    private final Sheet[] sheets;
    private int readFault;

    public SnowReign() {
        now = new Province();
        trial = new Province();
        probe = new Figure();
        salted = new Row[MOST_SALT_DAYS + 1];
        for (int k = 0; k < salted.length; k++) {
            salted[k] = new Row();
        }
        decrees = new int[ICED + 1][MOST_DAYS_SEEN + 1];
        reader = new TextReader();
        seenDays = new int[MOST_SEEN];
        seenDecrees = new int[MOST_SEEN];
        images = new Province[IMAGES];
        for (int k = 0; k < IMAGES; k++) {
            images[k] = new Province();
        }
        kept = new boolean[IMAGES];
        sheets = new Sheet[SHEETS];
        for (int k = 0; k < SHEETS; k++) {
            sheets[k] = new Sheet();
        }
    }

    // ---- the text, what there is

    public int feed(int c) {
        if (!within(c, MOST_BYTE)) {
            return BAD;
        }
        Tape tape = reader.tape;
        if (tape.length >= TAPE_BYTES) {
            return FULL;
        }
        tape.append(c);
        return tape.length;
    }

    public int end(int n) {
        Tape tape = reader.tape;
        if (!within(n, tape.length)) {
            return BAD;
        }
        int had = tape.length;
        tape.length = n;
        return had;
    }

    public int text() {
        reader.readAll();
        reader.tape.length = 0;
        textFault = reader.fault;
        if (textFault != 0) {
            return -10 - reader.faultPlace;
        }
        now.copyOf(reader.draft);
        seenNumber = 0;
        for (int k = 0; k < IMAGES; k++) {
            kept[k] = false;
        }
        return reader.lines;
    }

    public int fault() {
        return textFault;
    }

    public int rule(int what) {
        switch (what) {
            case 0:
                return now.row.number;
            case 1:
                return now.day;
            case 2:
                return now.row.reigning();
            case 3:
                return now.row.decreed();
            case 4:
                return now.row.standingBits();
            case 5:
                return now.row.sizeOfAll();
            default:
                return BAD;
        }
    }

    public int figure(int i, int what) {
        if (!isFigure(i) || !within(what, 4)) {
            return BAD;
        }
        Figure it = now.row.figures[i];
        if (what == 3) {
            return it.meltsBy(now.warmth[now.weekday()]);
        }
        if (what == 4) {
            return UPRIGHT + it.tipsBy(now.wind[now.weekday()]);
        }
        return it.tell(what);
    }

    public int week(int d, int what) {
        if (!within(d, WEEK_DAYS - 1) || !within(what, 1)) {
            return BAD;
        }
        return what == WARMTH ? now.warmth[d] : now.wind[d];
    }

    // ---- what is changed

    public int alter(int i, int what, int v) {
        if (!isFigure(i) || !within(what, LEAN) || !within(v, MOST_OF_FIGURE[what])) {
            return BAD;
        }
        Figure it = now.row.figures[i];
        int was = it.tell(what);
        it.put(what, v);
        return was;
    }

    public int set(int d, int what, int v) {
        if (!within(d, WEEK_DAYS - 1) || !within(what, 1)) {
            return BAD;
        }
        if (!within(v, what == WARMTH ? MOST_WARMTH : MOST_WIND)) {
            return BAD;
        }
        int[] days = what == WARMTH ? now.warmth : now.wind;
        int was = days[d];
        days[d] = v;
        return was;
    }

    public int roll(int kind, int size) {
        return rollUp(kind, size);
    }

    public int ice(int i) {
        if (!isFigure(i)) {
            return BAD;
        }
        Figure it = now.row.figures[i];
        if (!it.stands()) {
            return STATE;
        }
        int was = it.kind;
        it.kind = ICED;
        return was;
    }

    public int salt(int i) {
        if (!isFigure(i)) {
            return BAD;
        }
        Figure it = now.row.figures[i];
        if (!it.stands()) {
            return STATE;
        }
        it.halve();
        return it.size;
    }

    public int clear(int n) {
        if (!within(n, now.row.number)) {
            return BAD;
        }
        int had = now.row.number;
        now.row.number = n;
        return had;
    }

    // ---- days

    public int days(int n) {
        if (!within(n, MOST_DAYS_RUN)) {
            return BAD;
        }
        if (now.day + n >= DAY_LIMIT) {
            return FULL;
        }
        now.run(n);
        return now.row.standingNumber();
    }

    public int runs(int n, int what) {
        if (!within(n, MOST_DAYS_AHEAD) || !within(what, 4)) {
            return BAD;
        }
        trial.copyOf(now);
        if (what == 2) {
            return trial.unruledDays(n);
        }
        if (what == 4) {
            return trial.rulers(n);
        }
        trial.run(n);
        if (what == 0) {
            return trial.row.standingBits();
        }
        return what == 1 ? trial.row.reigning() : trial.row.sizeOfAll();
    }

    public int ahead(int i, int n, int what) {
        if (!isFigure(i) || !within(n, MOST_DAYS_AHEAD) || !within(what, 1)) {
            return BAD;
        }
        trial.copyOf(now);
        trial.run(n);
        return trial.row.figures[i].tell(what == 0 ? SIZE : LEAN);
    }

    public int falls(int i) {
        if (!isFigure(i)) {
            return BAD;
        }
        probe.copyOf(now.row.figures[i]);
        int behind = daysTillProbeFalls();
        return behind == NEVER_FALLS ? NONE : behind;
    }

    public long reign(int i, int n, int what) {
        if (!isFigure(i) || n < 1 || n > MOST_DAYS_AHEAD || !within(what, 1)) {
            return BAD;
        }
        trial.copyOf(now);
        return fraction(trial.daysRuledBy(i, n), n, what);
    }

    public int decree(int n) {
        if (!within(n, MOST_DAYS_AHEAD)) {
            return BAD;
        }
        trial.copyOf(now);
        trial.run(n);
        return trial.row.decreed();
    }

    public int coup() {
        trial.copyOf(now);
        int first = trial.row.reigning();
        for (int n = 1; n <= MOST_DAYS_AHEAD; n++) {
            trial.pass();
            if (trial.row.reigning() != first) {
                return n;
            }
        }
        return NONE;
    }

    // ---- what is best

    public int need(int i, int n) {
        if (!isFigure(i) || !within(n, MOST_DAYS_AHEAD)) {
            return BAD;
        }
        for (int size = 0; size <= MOST_SIZE; size++) {
            probe.copyOf(now.row.figures[i]);
            probe.size = size;
            if (daysTillProbeFalls() > n) {
                return size;
            }
        }
        return NONE;
    }

    public int bucket(int what) {
        if (!within(what, 1)) {
            return BAD;
        }
        trial.copyOf(now);
        int fewest = trial.unruledDays(MOST_DAYS_AHEAD);
        int best = NONE;
        for (int i = 0; i < now.row.number; i++) {
            if (now.row.figures[i].stands()) {
                trial.copyOf(now);
                trial.row.figures[i].kind = ICED;
                int unruled = trial.unruledDays(MOST_DAYS_AHEAD);
                if (unruled < fewest) {
                    fewest = unruled;
                    best = i;
                }
            }
        }
        return chosen(best, fewest, what);
    }

    public int swap(int n, int what) {
        if (n < 1 || n > MOST_DAYS_AHEAD || !within(what, 1)) {
            return BAD;
        }
        trial.copyOf(now);
        int fewest = trial.changesOfRuler(n);
        int best = NONE;
        for (int i = 0; i < now.row.number; i++) {
            for (int j = i + 1; j < now.row.number; j++) {
                trial.copyOf(now);
                trial.row.exchange(i, j);
                int changes = trial.changesOfRuler(n);
                if (changes < fewest) {
                    fewest = changes;
                    best = 10 * i + j;
                }
            }
        }
        return chosen(best, fewest, what);
    }

    public int lee(int n, int what) {
        if (!within(n, MOST_DAYS_AHEAD) || !within(what, 1)) {
            return BAD;
        }
        trial.copyOf(now);
        trial.run(n);
        int most = trial.row.standingNumber();
        int best = NONE;
        for (int d = 0; d < WEEK_DAYS; d++) {
            trial.copyOf(now);
            trial.wind[d] = STILL;
            trial.run(n);
            int standing = trial.row.standingNumber();
            if (standing > most) {
                most = standing;
                best = d;
            }
        }
        return chosen(best, most, what);
    }

    public int kind(int i, int what) {
        if (!isFigure(i) || !within(what, 1)) {
            return BAD;
        }
        return longest(i, KIND, what);
    }

    public int face(int i, int what) {
        if (!isFigure(i) || !within(what, 1)) {
            return BAD;
        }
        return longest(i, LEAN, what);
    }

    public int thaw(int i, int n) {
        if (!isFigure(i) || !within(n, MOST_DAYS_AHEAD)) {
            return BAD;
        }
        for (int v = MOST_WARMTH; v >= 0; v--) {
            trial.copyOf(now);
            Arrays.fill(trial.warmth, v);
            trial.run(n);
            if (trial.row.figures[i].stands()) {
                return v;
            }
        }
        return NONE;
    }

    // ---- salt

    public long luck(int v, int n, int what) {
        return afterSalt(v, n, what, false);
    }

    public long mean(int v, int n, int what) {
        return afterSalt(v, n, what, true);
    }

    // ---- what it was

    public int see(int n, int d) {
        if (!within(n, MOST_DAYS_SEEN) || !(within(d, MOST_DECREE) || d == NOBODY_SEEN)) {
            return BAD;
        }
        if (seenNumber >= MOST_SEEN) {
            return FULL;
        }
        seenDays[seenNumber] = n;
        seenDecrees[seenNumber] = d;
        seenNumber++;
        return seenNumber;
    }

    public int forget(int n) {
        if (!within(n, seenNumber)) {
            return BAD;
        }
        int had = seenNumber;
        seenNumber = n;
        return had;
    }

    public int kinds(int i) {
        return isFigure(i) ? fittingBits(i, KIND, ICED) : BAD;
    }

    public int sizes(int i) {
        return isFigure(i) ? fittingBits(i, SIZE, MOST_SIZE_TOLD) : BAD;
    }

    public int leans(int i, int what) {
        if (!isFigure(i) || !within(what, 1)) {
            return BAD;
        }
        int number = 0;
        int first = NONE;
        for (int v = 0; v <= MOST_LEAN; v++) {
            if (wouldFit(i, LEAN, v)) {
                number++;
                if (first == NONE) {
                    first = v;
                }
            }
        }
        return what == 0 ? number : first;
    }

    public int ask(int i, int what) {
        if (!isFigure(i) || !within(what, 1)) {
            return BAD;
        }
        int fitting = fittingBits(i, KIND, ICED);
        foreseeByKind(i);
        int fewest = Integer.bitCount(fitting);
        int best = NONE;
        for (int n = 0; n <= MOST_DAYS_SEEN; n++) {
            int left = mostAlike(fitting, n);
            if (left < fewest) {
                fewest = left;
                best = n;
            }
        }
        return chosen(best, fewest, what);
    }

    // ---- by a seed

    public int drift(int seed, int n, int what) {
        if (n < 1 || n > MOST_DAYS_AHEAD || !within(what, 1)) {
            return BAD;
        }
        if (now.row.number == 0) {
            return STATE;
        }
        trial.copyOf(now);
        int grown = seed;
        for (int k = 0; k < n; k++) {
            grown = grown * 1103515245 + 12345;
            int got = (grown >>> 16) & 0x7FFF;
            trial.row.pass(got % (MOST_WARMTH + 1), got / 16 % (MOST_WIND + 1));
        }
        return what == 0 ? trial.row.standingBits() : trial.row.sizeOfAll();
    }

    // ---- images, sheets

    public int keep(int k) {
        if (!within(k, IMAGES - 1)) {
            return BAD;
        }
        int was = kept[k] ? 1 : 0;
        images[k].copyOf(now);
        kept[k] = true;
        return was;
    }

    public int back(int k) {
        if (!within(k, IMAGES - 1)) {
            return BAD;
        }
        if (!kept[k]) {
            return STATE;
        }
        now.copyOf(images[k]);
        return now.day;
    }

    public int sheet(int k, int lane, int n) {
        if (!within(k, SHEETS - 1) || !within(lane, INTS) || n > MOST_CELLS) {
            return BAD;
        }
        if (n < 0) {
            return -10 - SIZE_FAULT;
        }
        sheets[k].renew(lane, n);
        return 1;
    }

    public int lay(int k, int i, int v) {
        if (!within(k, SHEETS - 1)) {
            return BAD;
        }
        Sheet it = sheets[k];
        int found = it.faultAt(i, it.lane);
        if (found != 0) {
            return -10 - found;
        }
        it.put(i, v);
        return 1;
    }

    public int read(int k, int lane, int f, int n) {
        if (!within(k, SHEETS - 1) || !within(lane, INTS) || !within(n, MOST_ROLLINGS)) {
            return BAD;
        }
        Sheet it = sheets[k];
        int had = now.row.number;
        for (int i = 0; i < n; i++) {
            int found = it.faultOfPair(f, i, lane);
            if (found != 0) {
                readFault = found;
                return i;
            }
            int cell = f + 2 * i;
            if (rollUp(it.cells[cell], it.cells[cell + 1]) < 0) {
                now.row.number = had;
                return -20 - i;
            }
        }
        readFault = 0;
        return n;
    }

    public int torn() {
        return readFault;
    }

    public int count(int what) {
        switch (what) {
            case 0:
                return seenNumber;
            case 1:
                return (kept[0] ? 1 : 0) + (kept[1] ? 1 : 0);
            case 2:
                return reader.tape.length;
            case 3:
                return sheets[0].lane == NOTHING ? NONE : sheets[0].length;
            case 4:
                return sum(now.warmth);
            case 5:
                return sum(now.wind);
            default:
                return BAD;
        }
    }

    // ---- what the calls share

    private static boolean within(int v, int most) {
        return v >= 0 && v <= most;
    }

    private boolean isFigure(int i) {
        return i >= 0 && i < now.row.number;
    }

    private static int sum(int[] row) {
        int all = 0;
        for (int v : row) {
            all += v;
        }
        return all;
    }

    private static int chosen(int best, int value, int what) {
        return best == NONE || what == 0 ? best : value;
    }

    private static long fraction(long numerator, long denominator, int what) {
        long a = denominator;
        long b = numerator;
        // The bound is far above what Euclid's way needs for two longs.
        for (int k = 0; k < 200 && b != 0; k++) {
            long rest = a % b;
            a = b;
            b = rest;
        }
        if (a == 0) {
            return BAD;
        }
        return what == 0 ? numerator / a : denominator / a;
    }

    private int rollUp(int kind, int size) {
        if (!within(kind, ICED) || !within(size, MOST_SIZE)) {
            return BAD;
        }
        if (now.row.number >= MOST_FIGURES) {
            return FULL;
        }
        now.row.add(kind, size, UPRIGHT);
        return now.row.number;
    }

    private int daysTillProbeFalls() {
        for (int n = 0; n <= MOST_DAYS_AHEAD; n++) {
            if (!probe.stands()) {
                return n;
            }
            int d = (now.day + n) % WEEK_DAYS;
            probe.pass(now.warmth[d], now.wind[d]);
        }
        return NEVER_FALLS;
    }

    private int longest(int i, int which, int what) {
        int best = 0;
        int most = -1;
        for (int v = 0; v <= MOST_OF_FIGURE[which]; v++) {
            probe.copyOf(now.row.figures[i]);
            probe.put(which, v);
            int behind = daysTillProbeFalls();
            if (behind > most) {
                most = behind;
                best = v;
            }
        }
        return what == 0 ? best : most;
    }

    private long afterSalt(int v, int n, int what, boolean bySize) {
        if (!within(v, SALT_ODDS) || !within(n, MOST_SALT_DAYS) || !within(what, 1)) {
            return BAD;
        }
        long ways = 1;
        for (int k = 0; k < n; k++) {
            ways *= SALT_ODDS;
        }
        salted[0].copyOf(now.row);
        return fraction(weighed(salted, now, 0, v, n, bySize), ways, what);
    }

    private static long weighed(Row[] rows, Province from, int depth, int v, int n, boolean bySize) {
        Row row = rows[depth];
        // Where nobody reigns nothing is left, and nobody ever will: both weights are 0 from there on.
        if (row.reigning() == NONE) {
            return 0;
        }
        if (depth >= n || depth + 1 >= rows.length) {
            return bySize ? row.sizeOfAll() : 1;
        }
        long sum = 0;
        if (v > 0) {
            passSalted(rows, from, depth, true);
            sum += v * weighed(rows, from, depth + 1, v, n, bySize);
        }
        if (v < SALT_ODDS) {
            passSalted(rows, from, depth, false);
            sum += (SALT_ODDS - v) * weighed(rows, from, depth + 1, v, n, bySize);
        }
        return sum;
    }

    private static void passSalted(Row[] rows, Province from, int depth, boolean isSalted) {
        Row next = rows[depth + 1];
        next.copyOf(rows[depth]);
        int reigning = next.reigning();
        if (isSalted && reigning != NONE) {
            next.figures[reigning].halve();
        }
        int d = (from.day + depth) % WEEK_DAYS;
        next.pass(from.warmth[d], from.wind[d]);
    }

    private int fittingBits(int i, int which, int most) {
        int bits = 0;
        for (int v = 0; v <= most; v++) {
            if (wouldFit(i, which, v)) {
                bits |= 1 << v;
            }
        }
        return bits;
    }

    private boolean wouldFit(int i, int which, int v) {
        trial.copyOf(now);
        trial.row.figures[i].put(which, v);
        int last = lastSeen();
        for (int n = 0; n <= last; n++) {
            if (!isAsSeen(n, trial.row.decreed())) {
                return false;
            }
            trial.pass();
        }
        return true;
    }

    private int lastSeen() {
        int last = NONE;
        for (int k = 0; k < seenNumber; k++) {
            last = Math.max(last, seenDays[k]);
        }
        return last;
    }

    private boolean isAsSeen(int n, int decreed) {
        for (int k = 0; k < seenNumber; k++) {
            int seen = seenDecrees[k] == NOBODY_SEEN ? NONE : seenDecrees[k];
            if (seenDays[k] == n && seen != decreed) {
                return false;
            }
        }
        return true;
    }

    private void foreseeByKind(int i) {
        for (int kind = 0; kind <= ICED; kind++) {
            trial.copyOf(now);
            trial.row.figures[i].kind = kind;
            trial.foresee(decrees[kind], MOST_DAYS_SEEN);
        }
    }

    private int mostAlike(int fitting, int n) {
        int most = 0;
        for (int a = 0; a <= ICED; a++) {
            int alike = 0;
            for (int b = 0; b <= ICED; b++) {
                if ((fitting >> b & 1) == 1 && decrees[a][n] == decrees[b][n]) {
                    alike++;
                }
            }
            most = Math.max(most, alike);
        }
        return most;
    }

    private static final class Figure {
        int kind;
        int size;
        int lean;

        void copyOf(Figure other) {
            kind = other.kind;
            size = other.size;
            lean = other.lean;
        }

        int tell(int which) {
            if (which == KIND) {
                return kind;
            }
            return which == SIZE ? size : lean;
        }

        void put(int which, int v) {
            if (which == KIND) {
                kind = v;
            } else if (which == SIZE) {
                size = v;
            } else {
                lean = v;
            }
        }

        boolean stands() {
            return size > 0;
        }

        void halve() {
            size /= 2;
        }

        int meltsBy(int warmth) {
            int by = warmth;
            if (kind == PACKED) {
                by = warmth / 2;
            } else if (kind == WET) {
                by = 2 * warmth;
            } else if (kind == ICED) {
                by = warmth < 2 ? 0 : warmth / 2 - 1;
            }
            return by < size ? by : size;
        }

        int tipsBy(int wind) {
            int push = wind - STILL;
            // The amount is halved, so that both sides are alike: Java's division does that.
            if (kind == PACKED) {
                return push / 2;
            }
            return kind == ICED ? 2 * (push / 2) : push;
        }

        void pass(int warmth, int wind) {
            if (!stands()) {
                return;
            }
            size -= meltsBy(warmth);
            lean = Math.max(0, Math.min(MOST_LEAN, lean + tipsBy(wind)));
            if (Math.abs(lean - UPRIGHT) > size) {
                size = 0;
            }
        }
    }

    private static final class Row {
        final Figure[] figures;
        int number;

        Row() {
            figures = new Figure[MOST_FIGURES];
            for (int i = 0; i < MOST_FIGURES; i++) {
                figures[i] = new Figure();
            }
        }

        void copyOf(Row other) {
            number = other.number;
            for (int i = 0; i < number; i++) {
                figures[i].copyOf(other.figures[i]);
            }
        }

        void add(int kind, int size, int lean) {
            if (number >= MOST_FIGURES) {
                return;
            }
            Figure it = figures[number];
            it.kind = kind;
            it.size = size;
            it.lean = lean;
            number++;
        }

        void exchange(int i, int j) {
            Figure first = figures[i];
            figures[i] = figures[j];
            figures[j] = first;
        }

        int reigning() {
            for (int i = 0; i < number; i++) {
                if (figures[i].stands()) {
                    return i;
                }
            }
            return NONE;
        }

        int decreed() {
            int i = reigning();
            return i == NONE ? NONE : figures[i].lean % (MOST_DECREE + 1);
        }

        int standingBits() {
            int bits = 0;
            for (int i = 0; i < number; i++) {
                if (figures[i].stands()) {
                    bits |= 1 << i;
                }
            }
            return bits;
        }

        int standingNumber() {
            return Integer.bitCount(standingBits());
        }

        int sizeOfAll() {
            int all = 0;
            for (int i = 0; i < number; i++) {
                all += figures[i].size;
            }
            return all;
        }

        void pass(int warmth, int wind) {
            for (int i = 0; i < number; i++) {
                figures[i].pass(warmth, wind);
            }
        }
    }

    private static final class Province {
        final Row row;
        final int[] warmth;
        final int[] wind;
        int day;

        Province() {
            row = new Row();
            warmth = new int[WEEK_DAYS];
            wind = new int[WEEK_DAYS];
            Arrays.fill(warmth, WARMTH_AT_FIRST);
            Arrays.fill(wind, STILL);
        }

        void renew() {
            row.number = 0;
            Arrays.fill(warmth, WARMTH_AT_FIRST);
            Arrays.fill(wind, STILL);
            day = 0;
        }

        void copyOf(Province other) {
            row.copyOf(other.row);
            System.arraycopy(other.warmth, 0, warmth, 0, WEEK_DAYS);
            System.arraycopy(other.wind, 0, wind, 0, WEEK_DAYS);
            day = other.day;
        }

        int weekday() {
            return day % WEEK_DAYS;
        }

        void pass() {
            int d = weekday();
            row.pass(warmth[d], wind[d]);
            day++;
        }

        void run(int n) {
            for (int k = 0; k < n; k++) {
                pass();
            }
        }

        int unruledDays(int n) {
            return daysRuledBy(NONE, n);
        }

        int daysRuledBy(int i, int n) {
            int ruled = 0;
            for (int k = 0; k < n; k++) {
                if (row.reigning() == i) {
                    ruled++;
                }
                pass();
            }
            return ruled;
        }

        int rulers(int n) {
            int bits = 0;
            for (int k = 0; k < n; k++) {
                int i = row.reigning();
                if (i != NONE) {
                    bits |= 1 << i;
                }
                pass();
            }
            return bits;
        }

        int changesOfRuler(int n) {
            int changes = 0;
            for (int k = 0; k < n; k++) {
                int before = row.reigning();
                pass();
                if (row.reigning() != before) {
                    changes++;
                }
            }
            return changes;
        }

        void foresee(int[] decreesBehind, int n) {
            for (int k = 0; k <= n && k < decreesBehind.length; k++) {
                decreesBehind[k] = row.decreed();
                pass();
            }
        }
    }

    private static final class Tape {
        // Those below SIGN are as long as may be, the others have one byte or none.
        static final int NAME = 0, NUMBER = 1, SIGN = 2, WRONG = 3, END = 4;

        final byte[] bytes;
        int length;
        int at;
        int token;
        int place;
        int value;

        Tape() {
            bytes = new byte[TAPE_BYTES];
        }

        void append(int c) {
            if (length < TAPE_BYTES) {
                bytes[length] = (byte) c;
                length++;
            }
        }

        void rewind() {
            at = 0;
        }

        void advance() {
            while (at < length && bytes[at] == ' ') {
                at++;
            }
            place = at;
            if (at >= length) {
                token = END;
                return;
            }
            token = sortOf(bytes[at]);
            at++;
            while (at < length && token < SIGN && sortOf(bytes[at]) == token) {
                at++;
            }
            if (token == NUMBER) {
                weigh();
            }
        }

        boolean isName(String word) {
            if (token != NAME || at - place != word.length()) {
                return false;
            }
            for (int k = 0; k < word.length(); k++) {
                if (bytes[place + k] != word.charAt(k)) {
                    return false;
                }
            }
            return true;
        }

        private void weigh() {
            if (at - place > 2) {
                token = WRONG;
                return;
            }
            value = 0;
            for (int k = place; k < at; k++) {
                value = 10 * value + (bytes[k] - '0');
            }
        }

        private static int sortOf(byte c) {
            if (c >= 'a' && c <= 'z') {
                return NAME;
            }
            if (c >= '0' && c <= '9') {
                return NUMBER;
            }
            return c == ';' ? SIGN : WRONG;
        }
    }

    private static final class TextReader {
        final Tape tape;
        // A text that has a FAULT changes nothing, so it is taken down here first.
        final Province draft;
        int lines;
        int fault;
        int faultPlace;
        private int daysTold;

        TextReader() {
            tape = new Tape();
            draft = new Province();
        }

        void readAll() {
            draft.renew();
            daysTold = 0;
            lines = 0;
            fault = 0;
            faultPlace = 0;
            tape.rewind();
            // Each line takes a byte at least.
            for (int k = 0; k <= TAPE_BYTES; k++) {
                tape.advance();
                if (tape.token == Tape.END || !readLine()) {
                    return;
                }
                lines++;
            }
        }

        private boolean readLine() {
            int kind = kindNamed();
            if (kind != NONE) {
                return readFigure(kind);
            }
            if (tape.isName("day")) {
                return readDay();
            }
            return refuseToken();
        }

        private int kindNamed() {
            if (tape.isName("powder")) {
                return 0;
            }
            if (tape.isName("packed")) {
                return PACKED;
            }
            if (tape.isName("wet")) {
                return WET;
            }
            return tape.isName("iced") ? ICED : NONE;
        }

        private boolean readFigure(int kind) {
            if (draft.row.number >= MOST_FIGURES) {
                return refuse(SIXTH_FIGURE);
            }
            if (!takesNumber(MOST_SIZE)) {
                return false;
            }
            int size = tape.value;
            if (!takesNumber(MOST_LEAN)) {
                return false;
            }
            draft.row.add(kind, size, tape.value);
            return takesSign();
        }

        private boolean readDay() {
            if (!takesNumber(WEEK_DAYS - 1)) {
                return false;
            }
            int d = tape.value;
            if ((daysTold >> d & 1) == 1) {
                return refuse(TOLD_TWICE);
            }
            daysTold |= 1 << d;
            if (!takesNumber(MOST_WARMTH)) {
                return false;
            }
            draft.warmth[d] = tape.value;
            if (!takesNumber(MOST_WIND)) {
                return false;
            }
            draft.wind[d] = tape.value;
            return takesSign();
        }

        private boolean takesNumber(int most) {
            tape.advance();
            if (tape.token != Tape.NUMBER) {
                return refuseToken();
            }
            return tape.value <= most || refuse(OUT_OF_BOUNDS);
        }

        private boolean takesSign() {
            tape.advance();
            return tape.token == Tape.SIGN || refuseToken();
        }

        private boolean refuseToken() {
            return refuse(tape.token == Tape.WRONG ? NO_TOKEN : MISPLACED);
        }

        private boolean refuse(int found) {
            fault = found;
            faultPlace = tape.place;
            return false;
        }
    }

    private static final class Sheet {
        final int[] cells;
        int lane;
        int length;

        Sheet() {
            cells = new int[MOST_CELLS];
            lane = NOTHING;
        }

        void renew(int newLane, int n) {
            lane = newLane;
            length = n;
            Arrays.fill(cells, 0);
        }

        void put(int i, int v) {
            if (lane == BYTES) {
                cells[i] = (byte) v;
            } else if (lane == SHORTS) {
                cells[i] = (short) v;
            } else {
                cells[i] = v;
            }
        }

        int faultAt(int i, int takenLane) {
            if (lane == NOTHING) {
                return NULL_FAULT;
            }
            if (lane != takenLane) {
                return CAST_FAULT;
            }
            return i < 0 || i >= length ? INDEX_FAULT : 0;
        }

        int faultOfPair(int f, int pair, int takenLane) {
            // The first CELL is looked at by itself: a sum from one far off could wrap around into the row.
            int found = faultAt(f, takenLane);
            return found != 0 ? found : faultAt(f + 2 * pair + 1, takenLane);
        }
    }
}
