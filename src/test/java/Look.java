import java.util.LinkedHashMap;
import java.util.Map;
import java.util.StringJoiner;

/** All that an object can tell of itself, by name. The object is used up by that: SHEETS, IMAGES, THE TAPE are told last. */
final class Look {
    final Map<String, String> told = new LinkedHashMap<>();
    /** How many calls this took. */
    int calls;
    private final SnowReign x;

    Look(SnowReign x) {
        this.x = x;
        tell("fault", x.fault());
        tell("torn", x.torn());
        tell("seen number", x.count(0));
        tell("images", x.count(1));
        tell("tape bytes", x.count(2));
        province();
        told.put("image 0", image(0));
        told.put("image 1", image(1));
        told.put("seen", seen());
        for (int k = 0; k < 4; k++) {
            told.put("sheet " + k, sheet(k));
        }
        told.put("tape", tape());
    }

    private void tell(String name, long answer) {
        told.put(name, String.valueOf(ask(answer)));
    }

    private long ask(long answer) {
        calls++;
        return answer;
    }

    private void province() {
        tell("figures", x.rule(0));
        tell("day", x.rule(1));
        for (int i = 0; i < x.rule(0); i++) {
            tell("kind " + i, x.figure(i, 0));
            tell("size " + i, x.figure(i, 1));
            tell("lean " + i, x.figure(i, 2));
            calls++;
        }
        for (int d = 0; d < 7; d++) {
            tell("warmth " + d, x.week(d, 0));
            tell("wind " + d, x.week(d, 1));
        }
    }

    private String image(int k) {
        StringJoiner all = new StringJoiner(" ");
        all.add(text(x.back(k)));
        if (all.toString().startsWith("-")) {
            return "none";
        }
        long number = ask(x.rule(0));
        all.add(text(x.rule(1)));
        for (int i = 0; i < number; i++) {
            all.add(text(x.figure(i, 0)) + "," + text(x.figure(i, 1)) + "," + text(x.figure(i, 2)));
        }
        for (int d = 0; d < 7; d++) {
            all.add(text(x.week(d, 0)) + "/" + text(x.week(d, 1)));
        }
        return all.toString();
    }

    /** Told by what a powder one that only melts, by 1, could be, by all that is SEEN and by ever less of it. */
    private String seen() {
        StringJoiner all = new StringJoiner(" ");
        powderOneThatOnlyMelts();
        for (int n = (int) ask(x.count(0)); n > 0; n--) {
            ask(x.forget(n));
            long first = ask(x.leans(0, 1));
            all.add(text(x.leans(0, 0)));
            ask(x.alter(0, 2, 20 + (int) Math.max(0, first) % 4));
            all.add(first + "," + text(x.sizes(0)));
        }
        return all.toString();
    }

    private void powderOneThatOnlyMelts() {
        ask(x.clear(0));
        ask(x.roll(0, 99));
        for (int d = 0; d < 7; d++) {
            ask(x.set(d, 0, 1));
            ask(x.set(d, 1, 4));
        }
    }

    private String sheet(int k) {
        StringJoiner all = new StringJoiner(" ");
        for (int lane = 0; lane < 3; lane++) {
            ask(x.clear(0));
            ask(x.read(k, lane, 0, 1));
            long torn = ask(x.torn());
            if (torn == 1) {
                return "nothing";
            }
            if (torn != 3) {
                all.add("lane " + lane).add(cells(k, lane));
            }
        }
        return all.add("length " + length(k)).toString();
    }

    private String cells(int k, int lane) {
        StringJoiner all = new StringJoiner(" ");
        for (int f = 0; f < 8; f += 2) {
            ask(x.clear(0));
            long came = ask(x.read(k, lane, f, 1));
            all.add(came == 1 ? text(x.figure(0, 0)) + "," + text(x.figure(0, 1)) : "(" + came + ")");
            if (came == 0) {
                break;
            }
        }
        return all.toString();
    }

    private int length(int k) {
        int least = 0;
        int most = 41;
        for (int step = 0; step < 6 && least < most; step++) {
            int middle = (least + most) / 2;
            if (ask(x.lay(k, middle, 0)) == 1) {
                least = middle + 1;
            } else {
                most = middle;
            }
        }
        return least;
    }

    private String tape() {
        StringJoiner all = new StringJoiner(" ");
        ask(x.clear(0));
        ask(x.feed(';'));
        all.add(text(x.text())).add(text(x.fault())).add(text(x.rule(0)));
        return all.add(text(x.figure(0, 0))).add(text(x.figure(0, 1))).add(text(x.figure(0, 2))).toString();
    }

    private String text(long answer) {
        return String.valueOf(ask(answer));
    }
}
