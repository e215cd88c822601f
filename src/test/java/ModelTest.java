import java.util.List;
import java.util.Random;
import java.util.Set;

/** Random runs of calls, by fixed seeds, against PlainModel. */
public final class ModelTest {
    private static final int OBJECTS = 400;
    private static final int CALLS = 150;
    private static final Due due = new Due();
    private static final Set<String> DEAR = Set.of("luck", "mean", "face", "need", "leans", "sizes", "ask");
    private static final List<String> NAMES = List.copyOf(Pair.face().keySet());

    public static void main(String[] args) {
        due.is("calls of the face", NAMES.size(), 43);
        for (int seed = 0; seed < OBJECTS && !due.anyWrong(); seed++) {
            run(new Random(seed));
        }
        due.close();
    }

    private static void run(Random r) {
        Pair pair = new Pair(due);
        begin(pair, r);
        for (int k = 0; k < CALLS; k++) {
            String name = NAMES.get(r.nextInt(NAMES.size()));
            boolean rare = DEAR.contains(name) && r.nextInt(3) > 0 || name.equals("clear") && r.nextInt(4) > 0
                || name.equals("text") && r.nextInt(5) > 0;
            if (!rare) {
                step(pair, r, name);
            }
        }
        pair.compareState();
    }

    private static void begin(Pair pair, Random r) {
        StringBuilder text = new StringBuilder();
        int figures = r.nextInt(6);
        boolean mild = r.nextInt(3) > 0;
        for (int i = 0; i < figures; i++) {
            text.append(List.of("powder", "packed", "wet", "iced").get(r.nextInt(4))).append(r.nextInt(3) == 0 ? r.nextInt(100) : r.nextInt(30));
            text.append(' ').append(r.nextInt(4) == 0 ? r.nextInt(41) : 15 + r.nextInt(11)).append(';');
        }
        pair.tell(text.toString());
        for (int d = 0; d < 7; d++) {
            pair.call("set", d, 0, mild ? r.nextInt(4) : r.nextInt(10));
            pair.call("set", d, 1, mild ? 3 + r.nextInt(3) : r.nextInt(9));
        }
    }

    private static void step(Pair pair, Random r, String name) {
        int kinds = Pair.face().get(name).getParameterCount();
        if (name.equals("see") && r.nextInt(4) > 0) {
            seeWhatMayBe(pair, r);
            return;
        }
        if (name.equals("feed") && r.nextInt(2) == 0) {
            pair.call("feed", "wet 1;day".charAt(r.nextInt(9)));
            return;
        }
        int[] args = new int[kinds];
        for (int k = 0; k < kinds; k++) {
            args[k] = argument(r, name, k);
        }
        pair.call(name, args);
    }

    /** What is SEEN at random hardly ever fits, so it is taken from how it would be with another KIND. */
    private static void seeWhatMayBe(Pair pair, Random r) {
        PlainModel.World w = pair.model.world;
        int n = r.nextInt(31);
        if (!w.figs().isEmpty()) {
            int i = r.nextInt(w.figs().size());
            w = w.withFig(i, w.figs().get(i).with(0, r.nextInt(4)));
        }
        long d = w.after(n).decree();
        pair.call("see", n, d < 0 ? 9 : (int) d);
    }

    private static int argument(Random r, String name, int k) {
        if (r.nextInt(40) == 0) {
            return List.of(Integer.MIN_VALUE, Integer.MAX_VALUE, -1, 100, 128).get(r.nextInt(5));
        }
        switch (name) {
            case "days":
                return r.nextInt(8) == 0 ? r.nextInt(33) - 1 : r.nextInt(4);
            case "lay":
            case "read":
                return ofSheets(r, name, k);
            case "sheet":
                return k < 2 ? r.nextInt(5 - k) : r.nextInt(44) - 2;
            case "drift":
                return k == 0 ? r.nextInt() : k == 1 ? r.nextInt(63) - 1 : r.nextInt(3);
            case "luck":
            case "mean":
                return k == 0 ? r.nextInt(13) - 1 : k == 1 ? r.nextInt(7) == 0 ? r.nextInt(11) - 1 : r.nextInt(5) : r.nextInt(3);
            case "alter":
                return k == 2 ? r.nextInt(3) == 0 ? r.nextInt(101) : r.nextInt(42) : r.nextInt(4);
            case "roll":
                return k == 0 ? r.nextInt(5) : r.nextInt(102) - 1;
            default:
                return plain(r, k);
        }
    }

    private static int ofSheets(Random r, String name, int k) {
        if (name.equals("lay")) {
            return k == 0 ? r.nextInt(5) : k == 1 ? r.nextInt(12) - 1 : r.nextInt(4) == 0 ? r.nextInt() : r.nextInt(4);
        }
        return List.of(r.nextInt(5), r.nextInt(4), r.nextInt(12) - 1, r.nextInt(6)).get(k);
    }

    private static int plain(Random r, int k) {
        return k == 0 || r.nextInt(3) > 0 ? r.nextInt(5) == 0 ? r.nextInt(64) - 1 : r.nextInt(6) : r.nextInt(64) - 1;
    }
}
