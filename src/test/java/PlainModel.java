import java.math.BigInteger;
import java.util.ArrayList;
import java.util.Collections;
import java.util.HashSet;
import java.util.List;
import java.util.Map;
import java.util.Set;
import java.util.TreeMap;
import java.util.function.Function;
import java.util.function.Predicate;
import java.util.regex.Matcher;
import java.util.regex.Pattern;

/** The document once more, written by itself, slowly, with all of Java: SnowReign's answers are tried against it. */
final class PlainModel {
    private static final long BAD = -1, STATE = -2, FULL = -3, NONE = -4;

    record Fig(int kind, int size, int lean) {
        boolean stands() {
            return size > 0;
        }

        Fig with(int what, int v) {
            return new Fig(what == 0 ? v : kind, what == 1 ? v : size, what == 2 ? v : lean);
        }

        int get(int what) {
            return List.of(kind, size, lean).get(what);
        }

        int melt(int warmth) {
            int packed = Math.floorDiv(warmth, 2);
            return Math.min(size, List.of(warmth, packed, 2 * warmth, Math.max(0, packed - 1)).get(kind));
        }

        int tip(int wind) {
            int powder = wind - 4;
            int packed = Integer.signum(powder) * Math.floorDiv(Math.abs(powder), 2);
            return List.of(powder, packed, powder, 2 * packed).get(kind);
        }

        Fig next(int warmth, int wind) {
            if (!stands()) {
                return this;
            }
            int left = size - melt(warmth);
            int leaning = lean - 20 + tip(wind);
            if (leaning > 20) {
                leaning = 20;
            }
            if (leaning < -20) {
                leaning = -20;
            }
            return new Fig(kind, Math.abs(leaning) > left ? 0 : left, leaning + 20);
        }
    }

    record World(List<Fig> figs, List<Integer> warmth, List<Integer> wind, int day) {
        static World first() {
            return new World(List.of(), Collections.nCopies(7, 1), Collections.nCopies(7, 4), 0);
        }

        World withFigs(List<Fig> other) {
            return new World(List.copyOf(other), warmth, wind, day);
        }

        World withFig(int i, Fig f) {
            List<Fig> other = new ArrayList<>(figs);
            other.set(i, f);
            return withFigs(other);
        }

        World withDay(int what, int d, int v) {
            List<Integer> other = new ArrayList<>(what == 0 ? warmth : wind);
            other.set(d, v);
            return new World(figs, what == 0 ? other : warmth, what == 1 ? other : wind, day);
        }

        World swapped(int i, int j) {
            return withFig(i, figs.get(j)).withFig(j, figs.get(i));
        }

        World next() {
            return withFigs(figs.stream().map(f -> f.next(warmth.get(day % 7), wind.get(day % 7))).toList()).later();
        }

        World later() {
            return new World(figs, warmth, wind, day + 1);
        }

        /** How it is behind 0, 1 .. n DAYS. */
        List<World> behind(int n) {
            List<World> all = new ArrayList<>(List.of(this));
            for (int k = 0; k < n; k++) {
                all.add(all.get(k).next());
            }
            return all;
        }

        World after(int n) {
            return behind(n).get(n);
        }

        long reigns() {
            for (int i = 0; i < figs.size(); i++) {
                if (figs.get(i).stands()) {
                    return i;
                }
            }
            return NONE;
        }

        long decree() {
            return reigns() == NONE ? NONE : figs.get((int) reigns()).lean() & 3;
        }

        long bits() {
            long bits = 0;
            for (int i = 0; i < figs.size(); i++) {
                bits += figs.get(i).stands() ? 1L << i : 0;
            }
            return bits;
        }

        long standing() {
            return figs.stream().filter(Fig::stands).count();
        }

        long all() {
            return figs.stream().mapToLong(Fig::size).sum();
        }

        long unruled(int n) {
            return behind(n).stream().limit(n).filter(w -> w.reigns() == NONE).count();
        }

        long changes(int n) {
            List<World> all = behind(n);
            long changes = 0;
            for (int k = 0; k < n; k++) {
                changes += all.get(k).reigns() != all.get(k + 1).reigns() ? 1 : 0;
            }
            return changes;
        }

        long falls(int i) {
            List<World> all = behind(60);
            for (int n = 0; n <= 60; n++) {
                if (!all.get(n).figs.get(i).stands()) {
                    return n;
                }
            }
            return NONE;
        }

        World salted() {
            int i = (int) reigns();
            return i < 0 ? this : withFig(i, figs.get(i).with(1, figs.get(i).size() >> 1));
        }
    }

    record Sight(int n, int d) { }

    record Cells(int lane, int[] cells) { }

    World world = World.first();
    String tape = "";
    int fault;
    int torn;
    final List<Sight> seen = new ArrayList<>();
    final Map<Integer, World> images = new TreeMap<>();
    final Map<Integer, Cells> sheets = new TreeMap<>();

    private static boolean in(int v, int low, int high) {
        return low <= v && v <= high;
    }

    private boolean fig(int i) {
        return in(i, 0, world.figs().size() - 1);
    }

    long feed(int c) {
        if (!in(c, 0, 127)) {
            return BAD;
        }
        if (tape.length() == 160) {
            return FULL;
        }
        tape += (char) c;
        return tape.length();
    }

    long end(int n) {
        if (!in(n, 0, tape.length())) {
            return BAD;
        }
        int had = tape.length();
        tape = tape.substring(0, n);
        return had;
    }

    private static final class Fault extends RuntimeException {
        private static final long serialVersionUID = 1;
        final int number;
        final int place;

        Fault(int number, int place) {
            this.number = number;
            this.place = place;
        }
    }

    private static final Pattern TOKEN = Pattern.compile(" *(?:([a-z]+)|([0-9]{1,2})(?![0-9])|(;)|($))");
    private Matcher token;
    private int at;

    private int place() {
        int p = at;
        while (p < tape.length() && tape.charAt(p) == ' ') {
            p++;
        }
        return p;
    }

    /** Takes the next TOKEN, which has to be of that sort (1 a NAME, 2 a NUMBER, 3 the sign, 4 the end). */
    private String take(Set<Integer> sorts) {
        int p = place();
        if (!token.find(at) || token.start() != at) {
            throw new Fault(1, p);
        }
        for (int sort = 1; sort <= 4; sort++) {
            if (token.group(sort) != null) {
                if (!sorts.contains(sort)) {
                    throw new Fault(2, p);
                }
                at = token.end();
                return token.group(sort);
            }
        }
        throw new IllegalStateException();
    }

    private int number(int most) {
        int p = place();
        int v = Integer.parseInt(take(Set.of(2)));
        if (v > most) {
            throw new Fault(3, p);
        }
        return v;
    }

    private World lines() {
        World w = World.first();
        Set<Integer> told = new HashSet<>();
        told.add(-1);
        lines = 0;
        while (true) {
            int p = place();
            String name = take(Set.of(1, 4));
            if (name.isEmpty()) {
                return w;
            }
            int kind = List.of("powder", "packed", "wet", "iced").indexOf(name);
            if (kind >= 0) {
                if (w.figs().size() == 5) {
                    throw new Fault(5, p);
                }
                int size = number(99);
                int lean = number(40);
                List<Fig> more = new ArrayList<>(w.figs());
                more.add(new Fig(kind, size, lean));
                w = w.withFigs(more);
            } else if (name.equals("day")) {
                int q = place();
                int d = number(6);
                if (!told.add(d)) {
                    throw new Fault(4, q);
                }
                w = w.withDay(0, d, number(9));
                w = w.withDay(1, d, number(8));
            } else {
                throw new Fault(2, p);
            }
            take(Set.of(3));
            lines++;
        }
    }

    private int lines;

    long text() {
        token = TOKEN.matcher(tape);
        at = 0;
        try {
            world = lines();
            fault = 0;
            seen.clear();
            images.clear();
            return lines;
        } catch (Fault f) {
            fault = f.number;
            return -10 - f.place;
        } finally {
            tape = "";
        }
    }

    long fault() {
        return fault;
    }

    long rule(int what) {
        return switch (what) {
            case 0 -> world.figs().size();
            case 1 -> world.day();
            case 2 -> world.reigns();
            case 3 -> world.decree();
            case 4 -> world.bits();
            case 5 -> world.all();
            default -> BAD;
        };
    }

    long figure(int i, int what) {
        if (!fig(i) || !in(what, 0, 4)) {
            return BAD;
        }
        Fig f = world.figs().get(i);
        int d = world.day() % 7;
        return what == 3 ? f.melt(world.warmth().get(d)) : what == 4 ? 20 + f.tip(world.wind().get(d)) : f.get(what);
    }

    long week(int d, int what) {
        if (!in(d, 0, 6) || !in(what, 0, 1)) {
            return BAD;
        }
        return (what == 0 ? world.warmth() : world.wind()).get(d);
    }

    long alter(int i, int what, int v) {
        if (!fig(i) || !in(what, 0, 2) || !in(v, 0, List.of(3, 99, 40).get(what))) {
            return BAD;
        }
        Fig f = world.figs().get(i);
        world = world.withFig(i, f.with(what, v));
        return f.get(what);
    }

    long set(int d, int what, int v) {
        if (!in(d, 0, 6) || !in(what, 0, 1) || !in(v, 0, 9 - what)) {
            return BAD;
        }
        long was = week(d, what);
        world = world.withDay(what, d, v);
        return was;
    }

    long roll(int kind, int size) {
        if (!in(kind, 0, 3) || !in(size, 0, 99)) {
            return BAD;
        }
        if (world.figs().size() == 5) {
            return FULL;
        }
        List<Fig> more = new ArrayList<>(world.figs());
        more.add(new Fig(kind, size, 20));
        world = world.withFigs(more);
        return more.size();
    }

    long ice(int i) {
        if (!fig(i)) {
            return BAD;
        }
        return world.figs().get(i).stands() ? alter(i, 0, 3) : STATE;
    }

    long salt(int i) {
        if (!fig(i)) {
            return BAD;
        }
        if (!world.figs().get(i).stands()) {
            return STATE;
        }
        int half = Math.floorDiv(world.figs().get(i).size(), 2);
        alter(i, 1, half);
        return half;
    }

    long clear(int n) {
        int had = world.figs().size();
        if (!in(n, 0, had)) {
            return BAD;
        }
        world = world.withFigs(world.figs().subList(0, n));
        return had;
    }

    long days(int n) {
        if (!in(n, 0, 30)) {
            return BAD;
        }
        if (world.day() + n > 999) {
            return FULL;
        }
        world = world.after(n);
        return world.standing();
    }

    long runs(int n, int what) {
        if (!in(n, 0, 60) || !in(what, 0, 4)) {
            return BAD;
        }
        World then = world.after(n);
        return switch (what) {
            case 0 -> then.bits();
            case 1 -> then.reigns();
            case 2 -> world.unruled(n);
            case 3 -> then.all();
            default -> world.behind(n).stream().limit(n).mapToLong(World::reigns).filter(i -> i >= 0).distinct().map(i -> 1L << i).sum();
        };
    }

    long ahead(int i, int n, int what) {
        if (!fig(i) || !in(n, 0, 60) || !in(what, 0, 1)) {
            return BAD;
        }
        return world.after(n).figs().get(i).get(what + 1);
    }

    long falls(int i) {
        return fig(i) ? world.falls(i) : BAD;
    }

    private static long part(BigInteger up, BigInteger down, int what) {
        return (what == 0 ? up : down).divide(up.gcd(down)).longValueExact();
    }

    long reign(int i, int n, int what) {
        if (!fig(i) || !in(n, 1, 60) || !in(what, 0, 1)) {
            return BAD;
        }
        long in = world.behind(n).stream().limit(n).filter(w -> w.reigns() == i).count();
        return part(BigInteger.valueOf(in), BigInteger.valueOf(n), what);
    }

    long decree(int n) {
        return in(n, 0, 60) ? world.after(n).decree() : BAD;
    }

    long coup() {
        List<World> all = world.behind(60);
        for (int n = 1; n <= 60; n++) {
            if (all.get(n).reigns() != world.reigns()) {
                return n;
            }
        }
        return NONE;
    }

    long need(int i, int n) {
        if (!fig(i) || !in(n, 0, 60)) {
            return BAD;
        }
        for (int size = 0; size < 100; size++) {
            if (world.withFig(i, world.figs().get(i).with(1, size)).after(n).figs().get(i).stands()) {
                return size;
            }
        }
        return NONE;
    }

    /** The first key of the least value below a bound. */
    private static long least(TreeMap<Long, Long> by, long below, int what) {
        if (by.isEmpty() || Collections.min(by.values()) >= below) {
            return NONE;
        }
        long best = Collections.min(by.values());
        return what == 1 ? best : by.keySet().stream().filter(k -> by.get(k) == best).findFirst().orElseThrow();
    }

    long bucket(int what) {
        if (!in(what, 0, 1)) {
            return BAD;
        }
        TreeMap<Long, Long> by = new TreeMap<>();
        for (int i = 0; i < world.figs().size(); i++) {
            if (world.figs().get(i).stands()) {
                by.put((long) i, world.withFig(i, world.figs().get(i).with(0, 3)).unruled(60));
            }
        }
        return least(by, world.unruled(60), what);
    }

    long swap(int n, int what) {
        if (!in(n, 1, 60) || !in(what, 0, 1)) {
            return BAD;
        }
        TreeMap<Long, Long> by = new TreeMap<>();
        for (int i = 0; i < world.figs().size(); i++) {
            for (int j = 0; j < i; j++) {
                by.put(10L * j + i, world.swapped(i, j).changes(n));
            }
        }
        return least(by, world.changes(n), what);
    }

    long lee(int n, int what) {
        if (!in(n, 0, 60) || !in(what, 0, 1)) {
            return BAD;
        }
        TreeMap<Long, Long> by = new TreeMap<>();
        for (int d = 0; d < 7; d++) {
            by.put((long) d, -world.withDay(1, d, 4).after(n).standing());
        }
        long found = least(by, -world.after(n).standing(), what);
        return what == 0 || found == NONE && Collections.min(by.values()) >= -world.after(n).standing() ? found : -found;
    }

    private long longest(int i, int which, int most, int what) {
        TreeMap<Long, Long> by = new TreeMap<>();
        for (int v = 0; v <= most; v++) {
            long falls = world.withFig(i, world.figs().get(i).with(which, v)).falls(i);
            by.put((long) v, falls == NONE ? -61 : -falls);
        }
        long best = -Collections.min(by.values());
        return what == 1 ? best : least(by, 1, 0);
    }

    long kind(int i, int what) {
        return fig(i) && in(what, 0, 1) ? longest(i, 0, 3, what) : BAD;
    }

    long face(int i, int what) {
        return fig(i) && in(what, 0, 1) ? longest(i, 2, 40, what) : BAD;
    }

    long thaw(int i, int n) {
        if (!fig(i) || !in(n, 0, 60)) {
            return BAD;
        }
        long greatest = NONE;
        for (int v = 0; v < 10; v++) {
            World w = new World(world.figs(), Collections.nCopies(7, v), world.wind(), world.day());
            greatest = w.after(n).figs().get(i).stands() ? v : greatest;
        }
        return greatest;
    }

    /** All ways of n DAYS, one after another: bit k of a way tells whether it is salted ahead of DAY k. */
    private long salted(int v, int n, int what, Function<World, Long> worth) {
        if (!in(v, 0, 10) || !in(n, 0, 8) || !in(what, 0, 1)) {
            return BAD;
        }
        BigInteger up = BigInteger.ZERO;
        for (int way = 0; way < 1 << n; way++) {
            World w = world;
            BigInteger weight = BigInteger.ONE;
            for (int k = 0; k < n; k++) {
                boolean is = (way >> k & 1) == 1;
                weight = weight.multiply(BigInteger.valueOf(is ? v : 10 - v));
                w = is ? w.salted().next() : w.next();
            }
            up = up.add(weight.multiply(BigInteger.valueOf(worth.apply(w))));
        }
        return part(up, BigInteger.TEN.pow(n), what);
    }

    long luck(int v, int n, int what) {
        return salted(v, n, what, w -> w.reigns() == NONE ? 0L : 1L);
    }

    long mean(int v, int n, int what) {
        return salted(v, n, what, World::all);
    }

    long see(int n, int d) {
        if (!in(n, 0, 30) || !in(d, 0, 3) && d != 9) {
            return BAD;
        }
        if (seen.size() == 6) {
            return FULL;
        }
        seen.add(new Sight(n, d));
        return seen.size();
    }

    long forget(int n) {
        int had = seen.size();
        if (!in(n, 0, had)) {
            return BAD;
        }
        seen.subList(n, had).clear();
        return had;
    }

    private List<Integer> fitting(int i, int which, int most) {
        Predicate<World> fits = w -> seen.stream().allMatch(s -> w.after(s.n()).decree() == (s.d() == 9 ? NONE : s.d()));
        List<Integer> all = new ArrayList<>();
        for (int v = 0; v <= most; v++) {
            if (fits.test(world.withFig(i, world.figs().get(i).with(which, v)))) {
                all.add(v);
            }
        }
        return all;
    }

    long kinds(int i) {
        return fig(i) ? fitting(i, 0, 3).stream().mapToLong(v -> 1L << v).sum() : BAD;
    }

    long sizes(int i) {
        return fig(i) ? fitting(i, 1, 30).stream().mapToLong(v -> 1L << v).sum() : BAD;
    }

    long leans(int i, int what) {
        if (!fig(i) || !in(what, 0, 1)) {
            return BAD;
        }
        List<Integer> all = fitting(i, 2, 40);
        return what == 0 ? all.size() : all.isEmpty() ? NONE : all.get(0);
    }

    long ask(int i, int what) {
        if (!fig(i) || !in(what, 0, 1)) {
            return BAD;
        }
        List<Integer> left = fitting(i, 0, 3);
        TreeMap<Long, Long> by = new TreeMap<>();
        for (int n = 0; n <= 30; n++) {
            Map<Long, Long> classes = new TreeMap<>();
            for (int kind : left) {
                classes.merge(world.withFig(i, world.figs().get(i).with(0, kind)).after(n).decree(), 1L, Long::sum);
            }
            by.put((long) n, classes.values().stream().mapToLong(c -> c).max().orElse(0));
        }
        return least(by, left.size(), what);
    }

    long drift(int seed, int n, int what) {
        if (!in(n, 1, 60) || !in(what, 0, 1)) {
            return BAD;
        }
        if (world.figs().isEmpty()) {
            return STATE;
        }
        BigInteger s = BigInteger.valueOf(seed);
        World w = world;
        for (int k = 0; k < n; k++) {
            s = s.multiply(BigInteger.valueOf(1103515245)).add(BigInteger.valueOf(12345)).mod(BigInteger.ONE.shiftLeft(32));
            int got = s.shiftRight(16).mod(BigInteger.ONE.shiftLeft(15)).intValueExact();
            w = w.withFigs(w.figs().stream().map(f -> f.next(got % 10, got / 16 % 9)).toList());
        }
        return what == 0 ? w.bits() : w.all();
    }

    long keep(int k) {
        if (!in(k, 0, 1)) {
            return BAD;
        }
        return images.put(k, world) == null ? 0 : 1;
    }

    long back(int k) {
        if (!in(k, 0, 1)) {
            return BAD;
        }
        if (!images.containsKey(k)) {
            return STATE;
        }
        world = images.get(k);
        return world.day();
    }

    long sheet(int k, int lane, int n) {
        if (!in(k, 0, 3) || !in(lane, 0, 2) || n > 40) {
            return BAD;
        }
        if (n < 0) {
            return -14;
        }
        sheets.put(k, new Cells(lane, new int[n]));
        return 1;
    }

    long lay(int k, int i, int v) {
        if (!in(k, 0, 3)) {
            return BAD;
        }
        if (!sheets.containsKey(k)) {
            return -11;
        }
        int[] cells = sheets.get(k).cells();
        if (!in(i, 0, cells.length - 1)) {
            return -12;
        }
        int unused = List.of(24, 16, 0).get(sheets.get(k).lane());
        cells[i] = v << unused >> unused;
        return 1;
    }

    long read(int k, int lane, int f, int n) {
        if (!in(k, 0, 3) || !in(lane, 0, 2) || !in(n, 0, 20)) {
            return BAD;
        }
        World before = world;
        int found = 0;
        int came = 0;
        for (int i = 0; i < n && found == 0; i++) {
            Cells sheet = sheets.get(k);
            long cell = f + 2L * i;
            if (sheet == null) {
                found = 1;
            } else if (sheet.lane() != lane) {
                found = 3;
            } else if (cell < 0 || cell + 1 >= sheet.cells().length) {
                found = 2;
            } else if (roll(sheet.cells()[(int) cell], sheet.cells()[(int) cell + 1]) < 0) {
                world = before;
                return -20 - i;
            } else {
                came++;
            }
        }
        torn = found;
        return came;
    }

    long torn() {
        return torn;
    }

    long count(int what) {
        return switch (what) {
            case 0 -> seen.size();
            case 1 -> images.size();
            case 2 -> tape.length();
            case 3 -> sheets.containsKey(0) ? sheets.get(0).cells().length : NONE;
            case 4 -> world.warmth().stream().mapToInt(v -> v).sum();
            case 5 -> world.wind().stream().mapToInt(v -> v).sum();
            default -> BAD;
        };
    }
}
