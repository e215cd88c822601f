import java.util.List;
import java.util.Random;

/** Texts, whole and broken, by fixed seeds, against PlainModel. */
public final class TextTest {
    private static final Due due = new Due();

    public static void main(String[] args) {
        for (int seed = 0; seed < 6000 && !due.anyWrong(); seed++) {
            Random r = new Random(seed);
            Pair pair = new Pair(due);
            pair.tell("iced 9 21; day 2 5 6;");
            pair.call("keep", 0);
            pair.call("see", 1, 1);
            pair.call("days", 3);
            String text = text(r);
            int breaks = r.nextInt(3);
            for (int k = 0; k < breaks; k++) {
                text = broken(text, r);
            }
            pair.tell(text);
            pair.compareState();
        }
        due.close();
    }

    private static String text(Random r) {
        StringBuilder text = new StringBuilder();
        int lines = r.nextInt(9);
        for (int k = 0; k < lines; k++) {
            text.append(blanks(r, 0));
            if (r.nextInt(2) == 0) {
                text.append(List.of("powder", "packed", "wet", "iced").get(r.nextInt(4)));
                text.append(blanks(r, 0)).append(r.nextInt(100)).append(blanks(r, 1)).append(r.nextInt(41 + r.nextInt(2)));
            } else {
                text.append("day").append(blanks(r, 0)).append(r.nextInt(7 + r.nextInt(2))).append(blanks(r, 1));
                text.append(r.nextInt(10)).append(blanks(r, 1)).append(r.nextInt(9));
            }
            text.append(blanks(r, 0)).append(';');
        }
        return text.append(blanks(r, 0)).toString();
    }

    private static String blanks(Random r, int least) {
        return " ".repeat(r.nextInt(5) == 0 ? least + r.nextInt(2) : least);
    }

    private static String broken(String text, Random r) {
        int at = r.nextInt(text.length() + 1);
        String sign = String.valueOf("wetpowdericday0123456789;; ! \t{`/:AZ".charAt(r.nextInt(36)));
        switch (r.nextInt(4)) {
            case 0:
                return text.substring(0, at);
            case 1:
                return text.substring(0, at) + sign + text.substring(at);
            case 2:
                return text.isEmpty() ? sign : text.substring(0, Math.max(0, at - 1)) + sign + text.substring(at);
            default:
                return text.substring(0, Math.max(0, at - 1)) + text.substring(at);
        }
    }
}
