import java.util.ArrayList;
import java.util.List;

/**
 * Calls told as text. Beside the calls of the face there are feeds(bytes), tell(text): its bytes, then text(),
 * weather(warmth, wind) of all days of the week, and n*call for a call n times.
 */
final class Script {
    private Script() {
    }

    /** The calls of the face that stand for these. */
    static List<String> plain(String... told) {
        List<String> calls = new ArrayList<>();
        for (String call : told) {
            int star = call.indexOf('*');
            if (star > 0 && call.substring(0, star).matches("\\d+")) {
                for (int k = Integer.parseInt(call.substring(0, star)); k > 0; k--) {
                    addPlain(calls, call.substring(star + 1));
                }
            } else {
                addPlain(calls, call);
            }
        }
        return calls;
    }

    private static void addPlain(List<String> calls, String call) {
        String name = call.substring(0, call.indexOf('('));
        String inside = call.substring(name.length() + 1, call.length() - 1);
        if (name.equals("feeds") || name.equals("tell")) {
            inside.chars().forEach(c -> calls.add("feed(" + c + ")"));
            if (name.equals("tell")) {
                calls.add("text()");
            }
        } else if (name.equals("weather")) {
            int[] v = numbers(inside);
            for (int d = 0; d < 7; d++) {
                calls.add("set(" + d + ", 0, " + v[0] + ")");
                calls.add("set(" + d + ", 1, " + v[1] + ")");
            }
        } else {
            calls.add(call);
        }
    }

    /** What the last of these answers. */
    static long run(SnowReign x, List<String> calls) {
        long answer = 0;
        for (String call : calls) {
            int open = call.indexOf('(');
            int[] args = numbers(call.substring(open + 1, call.length() - 1));
            answer = Pair.invoke(Pair.face().get(call.substring(0, open)), x, args);
        }
        return answer;
    }

    private static int[] numbers(String inside) {
        if (inside.isBlank()) {
            return new int[0];
        }
        String[] parts = inside.split(",");
        int[] all = new int[parts.length];
        for (int k = 0; k < parts.length; k++) {
            String part = parts[k].trim();
            all[k] = part.equals("MIN") ? Integer.MIN_VALUE : part.equals("MAX") ? Integer.MAX_VALUE : Integer.parseInt(part);
        }
        return all;
    }
}
