import java.io.IOException;

/** The edges of promises 29 to 37: salt, what it was, days by a seed. */
public final class EdgesOfSaltAndSeenTest {
    private static final int BAD = Scenes.BAD, STATE = Scenes.STATE, FULL = Scenes.FULL, NONE = Scenes.NONE;
    private static final int ALL_SIZES = Integer.MAX_VALUE;
    private static Edges edges;

    public static void main(String[] args) throws IOException {
        edges = new Edges(29, 37);
        saltArguments("luck", 29, "that somebody REIGNS behind them: 0, 1. BAD.");
        saltArguments("mean", 30, "Likewise, the mean of SIZE of all behind them: 0, 1. BAD.");
        salt();
        saltOfSeveral();
        see();
        forget();
        kinds();
        sizes();
        leans();
        ask();
        drift();
        driftBySeeds();
        edges.close();
    }

    private static void saltArguments(String name, int promise, String sentence) {
        Edge rich = edges.at(promise, sentence, Scenes.RICH);
        Edge fresh = edges.at(promise, sentence);
        for (Edge edge : new Edge[] {rich, fresh}) {
            edge.bounds(name + "(@, 1, 0)", 0, 10).bounds(name + "(@, 1, 1)", 0, 10).bounds(name + "(5, @, 0)", 0, 8).bounds(name + "(5, @, 1)", 0, 8)
                .bounds(name + "(5, 1, @)", 0, 1);
        }
        part(fresh, name + "(5, 0", 0, 1);
        part(fresh, name + "(5, 8", 0, 1);
        Edge fallen = edges.at(promise, "(0 is 0 by 1)", "5*roll(1, 0)");
        part(fallen, name + "(0, 0", 0, 1);
        part(fallen, name + "(10, 8", 0, 1);
    }

    private static void part(Edge edge, String call, int up, int down) {
        edge.leaves(call + ", 0)", up).leaves(call + ", 1)", down);
    }

    private static void salt() {
        String days = "In each of n DAYS (0 to 8), ahead of it, the FIGURE that REIGNS is salted by v out of ten (0 to 10), by itself";
        Edge whole = edges.at(29, days, "roll(1, 99)");
        part(whole, "luck(10, 0", 1, 1);
        part(whole, "luck(10, 6", 1, 1);
        part(whole, "luck(10, 7", 0, 1);
        part(whole, "luck(10, 8", 0, 1);
        part(whole, "luck(0, 8", 1, 1);
        part(whole, "luck(5, 7", 127, 128);
        part(whole, "luck(5, 8", 247, 256);
        part(whole, "luck(1, 8", 99999927, 100000000);
        Edge one = edges.at(29, days, "roll(1, 1)");
        part(one, "luck(1, 1", 9, 10);
        part(one, "luck(2, 1", 4, 5);
        part(one, "luck(9, 1", 1, 10);
        part(one, "luck(10, 1", 0, 1);
        part(one, "luck(0, 1", 1, 1);
        part(one, "luck(1, 8", 43046721, 100000000);
        part(one, "luck(9, 8", 1, 100000000);
        Edge ahead = edges.at(29, "ahead of it, the FIGURE that REIGNS is salted", "roll(0, 3)");
        part(ahead, "luck(10, 1", 0, 1);
        part(ahead, "luck(5, 1", 1, 2);
        Edge meanWhole = edges.at(30, "Likewise, the mean of SIZE of all behind them", "roll(1, 99)");
        part(meanWhole, "mean(10, 0", 99, 1);
        part(meanWhole, "mean(0, 8", 99, 1);
        part(meanWhole, "mean(10, 6", 1, 1);
        part(meanWhole, "mean(10, 7", 0, 1);
        part(meanWhole, "mean(10, 8", 0, 1);
        part(meanWhole, "mean(5, 1", 74, 1);
        part(meanWhole, "mean(1, 1", 94, 1);
        part(meanWhole, "mean(9, 1", 54, 1);
        Edge meanOne = edges.at(30, "Likewise, the mean of SIZE of all behind them", "roll(1, 2)");
        part(meanOne, "mean(5, 1", 3, 2);
        part(meanOne, "mean(1, 1", 19, 10);
        part(meanOne, "mean(10, 1", 1, 1);
        part(meanOne, "mean(10, 2", 0, 1);
    }

    private static void saltOfSeveral() {
        Edge two = edges.at(29, "the FIGURE that REIGNS is salted", "2*roll(1, 1)");
        part(two, "luck(10, 1", 1, 1);
        part(two, "luck(10, 2", 0, 1);
        part(two, "luck(5, 2", 3, 4);
        Edge meanTwo = edges.at(30, "SIZE of all", "2*roll(1, 1)");
        part(meanTwo, "mean(10, 1", 1, 1);
        part(meanTwo, "mean(10, 2", 0, 1);
        part(meanTwo, "mean(5, 2", 1, 1);
        Edge five = edges.at(30, "SIZE of all", "5*roll(1, 99)");
        part(five, "mean(0, 8", 495, 1);
        part(five, "mean(10, 0", 495, 1);
        part(five, "mean(10, 1", 445, 1);
        String wrap = "it is that day of the week which DAY leaves by 7";
        Edge luckWraps = edges.at(29, wrap, "set(0, 0, 9)", "days(6)", "roll(0, 5)");
        part(luckWraps, "luck(0, 1", 1, 1);
        part(luckWraps, "luck(0, 2", 0, 1);
        Edge meanWraps = edges.at(30, wrap, "set(0, 0, 9)", "days(6)", "roll(0, 25)");
        part(meanWraps, "mean(0, 1", 24, 1);
        part(meanWraps, "mean(0, 2", 15, 1);
        part(meanWraps, "mean(0, 8", 9, 1);
        part(edges.at(29, "In each of n DAYS (0 to 8)", Scenes.atTheLastDay("roll(0, 9)")), "luck(0, 8", 1, 1);
        part(edges.at(30, "SIZE of all", Scenes.atTheLastDay("roll(0, 9)")), "mean(0, 8", 1, 1);
    }

    private static void see() {
        String sentence = "SEEN: behind n DAYS (0 to 30) DECREE is d (0 to 3; 9: nobody REIGNS): how many are. BAD; FULL.";
        edges.at(31, sentence, Scenes.RICH).bounds("see(@, 0)", 0, 30).bounds("see(@, 9)", 0, 30).bounds("see(0, @)", 0, 3).bounds("see(30, @)", 9, 9)
            .leaves("see(0, 5)", BAD).changes("see(30, 9)", 3, "seen number=3", "seen");
        edges.at(31, sentence).bounds("see(@, 3)", 0, 30).changes("see(0, 0)", 1, "seen number=1", "seen").changes("see(29, 0)", 2, "seen number=2", "seen");
        String six = "SEEN (6)";
        edges.at(31, six, "5*see(0, 0)").is("see(0, 0)", 6).leaves("see(0, 0)", FULL).leaves("see(30, 9)", FULL).is("forget(5)", 6).is("see(0, 0)", 6);
        edges.at(31, "the first that fits", "6*see(0, 0)").leaves("see(31, 0)", BAD).leaves("see(-1, 9)", BAD).leaves("see(0, 4)", BAD)
            .leaves("see(0, 8)", BAD).leaves("see(0, 10)", BAD).leaves("see(0, -1)", BAD);
    }

    private static void forget() {
        String sentence = "SEEN are the first n alone: how many there were. BAD (n above that, too).";
        edges.at(32, sentence, Scenes.RICH).bounds("forget(@)", 0, 2).leaves("forget(2)", 2).changes("forget(1)", 2, "seen number=1", "seen")
            .leaves("forget(2)", BAD).changes("forget(0)", 1, "seen number=0", "seen").leaves("forget(1)", BAD);
        edges.at(32, sentence).bounds("forget(@)", 0, 0).leaves("forget(0)", 0);
        edges.at(32, sentence, "6*see(3, 0)").bounds("forget(@)", 0, 6).leaves("forget(6)", 6);
        edges.at(32, sentence, "roll(0, 9)", "see(0, 0)", "see(0, 1)").is("kinds(0)", 0).is("forget(1)", 2).is("kinds(0)", 15)
            .is("see(0, 2)", 2).is("kinds(0)", 0);
    }

    private static void kinds() {
        String sentence = "KINDS of a FIGURE (bits) by which, all else as it is, all is as SEEN. BAD.";
        edges.at(33, sentence, Scenes.RICH).bounds("kinds(@)", 0, 3).leaves("kinds(0)", 0);
        edges.at(33, sentence).leaves("kinds(0)", BAD).is("5*roll(0, 0)", 5).bounds("kinds(@)", 0, 4).leaves("kinds(4)", 15);
        edges.at(33, sentence, "roll(0, 9)").leaves("kinds(0)", 15).is("see(0, 0)", 1).leaves("kinds(0)", 15).is("see(0, 1)", 2).leaves("kinds(0)", 0);
        String seen = "behind n DAYS (0 to 30) from how it stands when that is asked of (not from see() on) DECREE is d (0 to 3), or nobody REIGNS";
        edges.at(33, seen, "roll(0, 30)", "see(30, 9)").leaves("kinds(0)", 5).is("alter(0, 1, 31)", 30).leaves("kinds(0)", 4)
            .is("forget(0)", 1).is("see(30, 0)", 1).leaves("kinds(0)", 11);
        edges.at(33, seen, "weather(0, 5)", "roll(0, 9)", "see(1, 1)").leaves("kinds(0)", 5).is("days(1)", 1).leaves("kinds(0)", 10);
        edges.at(33, seen, "roll(0, 0)", "see(0, 9)").leaves("kinds(0)", 15).is("see(30, 9)", 2).leaves("kinds(0)", 15).is("see(15, 0)", 3).leaves("kinds(0)", 0);
        edges.at(33, seen, "tell(powder 9 21;)", "see(0, 1)", "see(0, 1)", "see(1, 1)", "see(2, 1)", "see(3, 1)").leaves("kinds(0)", 15).is("see(5, 9)", 6).leaves("kinds(0)", 4);
        edges.at(33, seen, Scenes.atTheLastDay("roll(0, 30)", "see(30, 9)")).leaves("kinds(0)", 5);
        edges.at(33, "it is that day of the week which DAY leaves by 7", "set(0, 1, 5)", "days(6)", "roll(0, 9)", "see(2, 1)").leaves("kinds(0)", 5);
    }

    private static void sizes() {
        String sentence = "SIZES of a FIGURE (0 to 30; bits) by which, all else as it is, all is as SEEN. BAD.";
        edges.at(34, sentence, Scenes.RICH).bounds("sizes(@)", 0, 3).leaves("sizes(0)", 0);
        edges.at(34, sentence).leaves("sizes(0)", BAD).is("5*roll(0, 99)", 5).bounds("sizes(@)", 0, 4).leaves("sizes(4)", ALL_SIZES);
        edges.at(34, sentence, "roll(0, 99)", "see(0, 9)").leaves("sizes(0)", 1).is("forget(0)", 1).is("see(0, 0)", 1).leaves("sizes(0)", ALL_SIZES - 1)
            .is("forget(0)", 1).is("see(0, 1)", 1).leaves("sizes(0)", 0);
        edges.at(34, sentence, "roll(0, 99)", "see(29, 0)").leaves("sizes(0)", 1 << 30).is("forget(0)", 1).is("see(30, 0)", 1).leaves("sizes(0)", 0);
        edges.at(34, sentence, "roll(0, 99)", "see(29, 9)").leaves("sizes(0)", (1 << 30) - 1).is("forget(0)", 1).is("see(30, 9)", 1).leaves("sizes(0)", ALL_SIZES);
    }

    private static void leans() {
        String sentence = "How many LEANS (0 to 40) of a FIGURE there are by which, all else as it is, all is as SEEN (what 0), the first (1; NONE: there are none). BAD.";
        edges.at(35, sentence, Scenes.RICH).bounds("leans(@, 0)", 0, 3).bounds("leans(@, 1)", 0, 3).bounds("leans(0, @)", 0, 1);
        edges.at(35, sentence).leaves("leans(0, 0)", BAD).leaves("leans(0, 1)", BAD).is("5*roll(0, 0)", 5).bounds("leans(@, 0)", 0, 4)
            .leaves("leans(4, 0)", 41).leaves("leans(4, 1)", 0);
        edges.at(35, sentence, "roll(0, 9)", "see(0, 0)").leaves("leans(0, 0)", 11).leaves("leans(0, 1)", 0)
            .is("forget(0)", 1).is("see(0, 3)", 1).leaves("leans(0, 0)", 10).leaves("leans(0, 1)", 3);
        edges.at(35, "NONE: there are none", "roll(0, 0)", "see(0, 0)").leaves("leans(0, 0)", 0).leaves("leans(0, 1)", NONE);
        edges.at(35, "the first that fits", "roll(0, 0)", "see(0, 0)").leaves("leans(0, 2)", BAD).leaves("leans(0, -1)", BAD).leaves("leans(1, 1)", BAD);
        edges.at(35, "How many LEANS (0 to 40)", "weather(0, 5)", "roll(0, 19)", "see(0, 0)", "see(1, 9)").leaves("leans(0, 0)", 1).leaves("leans(0, 1)", 40);
        edges.at(35, "How many LEANS (0 to 40)", "weather(0, 3)", "roll(0, 19)", "see(0, 0)", "see(1, 9)").leaves("leans(0, 0)", 1).leaves("leans(0, 1)", 0);
        edges.at(35, "20 to each side at most", "weather(0, 5)", "roll(0, 99)", "see(30, 0)", "see(1, 0)").leaves("leans(0, 0)", 9).leaves("leans(0, 1)", 11);
    }

    private static void ask() {
        String sentence = "Behind how many DAYS (0 to 30) to look what DECREE is";
        edges.at(36, sentence, Scenes.RICH).bounds("ask(@, 0)", 0, 3).bounds("ask(@, 1)", 0, 3).bounds("ask(0, @)", 0, 1).leaves("ask(0, 0)", NONE);
        edges.at(36, sentence).leaves("ask(0, 0)", BAD).leaves("ask(0, 1)", BAD).is("5*roll(0, 5)", 5).bounds("ask(@, 0)", 0, 4);
        edges.at(36, sentence, "roll(0, 30)", "see(15, 0)").leaves("kinds(0)", 11).leaves("ask(0, 0)", 30).leaves("ask(0, 1)", 2);
        edges.at(36, sentence, "roll(0, 31)", "see(16, 0)").leaves("kinds(0)", 11).leaves("ask(0, 0)", NONE).leaves("ask(0, 1)", NONE);
        edges.at(36, sentence, "weather(0, 5)", "roll(0, 9)").leaves("ask(0, 0)", 1).leaves("ask(0, 1)", 2);
        String fewer = "fewest are left at the worst, fewer than now, the first (what 0), how many these are (1). BAD; NONE: behind none.";
        edges.at(36, fewer, "roll(0, 0)").leaves("ask(0, 0)", NONE).leaves("ask(0, 1)", NONE).leaves("ask(0, 2)", BAD).leaves("ask(1, 0)", BAD);
        edges.at(36, fewer, "roll(0, 31)", "see(16, 9)").leaves("kinds(0)", 4).leaves("ask(0, 0)", NONE).leaves("ask(0, 1)", NONE);
        edges.at(36, fewer, "roll(0, 31)", "see(0, 1)").leaves("kinds(0)", 0).leaves("ask(0, 0)", NONE).leaves("ask(0, 1)", NONE);
        edges.at(36, fewer, "weather(0, 5)", "roll(0, 9)", "see(1, 1)").leaves("kinds(0)", 5).leaves("ask(0, 0)", NONE).leaves("ask(0, 1)", NONE);
        edges.at(36, fewer, "set(0, 1, 5)", "roll(0, 3)", "see(1, 1)", "see(2, 1)").leaves("kinds(0)", 1).leaves("ask(0, 0)", NONE).leaves("ask(0, 1)", NONE);
        edges.at(36, fewer, "weather(9, 4)", "roll(2, 12)", "see(3, 0)").leaves("kinds(0)", 8).leaves("ask(0, 0)", NONE).leaves("ask(0, 1)", NONE);
        edges.at(36, fewer, "set(0, 1, 5)", "roll(0, 3)", "see(1, 1)").leaves("kinds(0)", 5).leaves("ask(0, 0)", 2).leaves("ask(0, 1)", 1);
        edges.at(36, fewer, "roll(0, 1)", "roll(0, 5)").leaves("ask(0, 0)", 5).leaves("ask(0, 1)", 2);
        edges.at(36, fewer, "roll(0, 1)", "roll(1, 5)").leaves("ask(0, 0)", NONE).is("clear(1)", 2).leaves("ask(0, 0)", 1).leaves("ask(0, 1)", 2);
    }

    private static void drift() {
        String sentence = "BAD; STATE: there are no FIGURES.";
        edges.at(37, sentence, Scenes.RICH).bounds("drift(1, @, 0)", 1, 60).bounds("drift(1, @, 1)", 1, 60).bounds("drift(1, 1, @)", 0, 1);
        edges.at(37, sentence).leaves("drift(1, 1, 0)", STATE).leaves("drift(0, 60, 1)", STATE).is("roll(0, 0)", 1)
            .leaves("drift(1, 1, 0)", 0).leaves("drift(1, 60, 1)", 0).is("clear(0)", 1).leaves("drift(1, 1, 0)", STATE);
        edges.at(37, "the first that fits").leaves("drift(1, 0, 0)", BAD).leaves("drift(1, 61, 0)", BAD).leaves("drift(1, 1, 2)", BAD).leaves("drift(1, 1, -1)", BAD);
        edges.at(37, "By itself (as it would be; nothing is changed)", Scenes.atTheLastDay("roll(0, 99)")).leaves("drift(1, 60, 0)", 0).leaves("drift(0, 1, 1)", 99);
    }

    private static void driftBySeeds() {
        String sentence = "ahead of each the seed becomes seed times 1103515245 and 12345; bits 16 to 30 of it are got";
        String[] seeds = {"0", "1", "-1", "MAX", "MIN", "7"};
        int[] numbers = {1, 2, 3, 10, 20, 60};
        int[][] standing = {{31, 31, 31, 11, 10, 8}, {31, 31, 31, 11, 10, 8}, {31, 31, 31, 15, 10, 8}, {31, 31, 31, 15, 10, 8}, {31, 31, 31, 11, 10, 8}, {31, 31, 31, 15, 11, 8}};
        int[][] sizes = {{426, 387, 348, 216, 131, 42}, {387, 348, 335, 212, 125, 29}, {383, 340, 331, 225, 117, 18}, {383, 340, 331, 225, 117, 18},
            {426, 387, 348, 216, 131, 42}, {407, 378, 339, 248, 180, 27}};
        Edge edge = edges.at(37, sentence, "roll(0, 99)", "roll(1, 99)", "roll(2, 99)", "roll(3, 99)", "roll(0, 30)");
        for (int s = 0; s < seeds.length; s++) {
            for (int k = 0; k < numbers.length; k++) {
                edge.leaves("drift(" + seeds[s] + ", " + numbers[k] + ", 0)", standing[s][k]).leaves("drift(" + seeds[s] + ", " + numbers[k] + ", 1)", sizes[s][k]);
            }
        }
        String wind = "in that DAY WARMTH is got modulo 10, WIND is got by 16 (down) modulo 9";
        edges.at(37, wind, "tell(powder 4 20;powder 3 20;powder 3 21;powder 2 21;)").leaves("drift(0, 1, 0)", 5).leaves("drift(0, 1, 1)", 7);
        edges.at(37, wind, "tell(powder 12 20;powder 11 20;powder 11 19;powder 10 19;)").leaves("drift(1, 1, 0)", 5).leaves("drift(1, 1, 1)", 7);
        edges.at(37, wind, "tell(powder 12 22;powder 11 22;powder 10 18;powder 9 18;)").leaves("drift(-1, 1, 0)", 5).leaves("drift(-1, 1, 1)", 4);
        edges.at(37, wind, "tell(powder 7 20;powder 6 20;powder 6 19;powder 5 19;)").leaves("drift(7, 1, 0)", 5).leaves("drift(7, 1, 1)", 5);
        edges.at(37, "(in place of those of the week)", "weather(9, 8)", "roll(0, 99)").leaves("drift(0, 1, 1)", 99).leaves("drift(0, 2, 1)", 91);
    }
}
