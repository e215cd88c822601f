import java.util.ArrayList;
import java.util.List;
import java.util.Map;
import java.util.Objects;
import java.util.TreeSet;

/** A place that some calls lead to, what calls answer there, and what they change. */
final class Edge {
    private static final int BAD = -1;
    private static final int MOST_CALLS = 512;

    private final Due due;
    private final String name;
    private final List<String> calls;
    private final SnowReign x = new SnowReign();
    private Map<String, String> looked;

    Edge(Due due, String name, String... before) {
        this.due = due;
        this.name = name;
        calls = new ArrayList<>(Script.plain(before));
        Script.run(x, calls);
    }

    /** The call answers so; it counts for what comes behind it. */
    Edge is(String call, long want) {
        List<String> more = Script.plain(call);
        calls.addAll(more);
        looked = null;
        due.isTrue(name + ": too many calls", calls.size() <= MOST_CALLS);
        due.is(name + ": " + call, Script.run(x, more), want);
        return this;
    }

    /** The call answers so and leaves all as it was; it does not count for what comes behind it. */
    Edge leaves(String call, long want) {
        compare(call, want);
        return this;
    }

    /** The call answers so and changes just this ("name=value", or "name" where it becomes another one); it counts. */
    Edge changes(String call, long want, String... told) {
        compare(call, want, told);
        return is(call, want);
    }

    /** For the sign @ the least and the most are taken; what lies next to them, and far from them, is BAD and leaves all. */
    Edge bounds(String call, int least, int most) {
        for (int v : new int[] {least, most}) {
            SnowReign y = new SnowReign();
            List<String> all = with(call.replace("@", String.valueOf(v)));
            due.isTrue(name + ": " + all.get(all.size() - 1) + " is not BAD", Script.run(y, all) != BAD);
        }
        for (int v : new int[] {least - 1, most + 1, Integer.MIN_VALUE, Integer.MAX_VALUE}) {
            leaves(call.replace("@", String.valueOf(v)), BAD);
        }
        return this;
    }

    private List<String> with(String call) {
        List<String> all = new ArrayList<>(calls);
        all.addAll(Script.plain(call));
        return all;
    }

    private void compare(String call, long want, String... told) {
        if (looked == null) {
            looked = lookAt(new SnowReign(), calls);
        }
        SnowReign y = new SnowReign();
        List<String> all = with(call);
        due.is(name + ": " + call, Script.run(y, all), want);
        Map<String, String> then = lookBehind(y, all.size());
        TreeSet<String> changed = new TreeSet<>(looked.keySet());
        changed.addAll(then.keySet());
        changed.removeIf(key -> Objects.equals(looked.get(key), then.get(key)));
        TreeSet<String> wanted = new TreeSet<>();
        for (String one : told) {
            String key = one.replaceAll("=.*", "");
            wanted.add(key);
            due.isTrue(name + ": behind " + call + " " + one + ", not " + then.get(key),
                key.equals(one) || one.equals(key + "=" + then.get(key)));
        }
        due.isTrue(name + ": " + call + " changes " + wanted + ", not " + changed, changed.equals(wanted));
    }

    private Map<String, String> lookAt(SnowReign y, List<String> all) {
        Script.run(y, all);
        return lookBehind(y, all.size());
    }

    private Map<String, String> lookBehind(SnowReign y, int already) {
        Look look = new Look(y);
        due.isTrue(name + ": too many calls, " + already + " and " + look.calls, already + look.calls <= MOST_CALLS);
        return look.told;
    }
}
