import java.io.IOException;

/** The edges of promises 16 to 21: days as they would be. */
public final class EdgesOfDaysTest {
    private static final int BAD = Scenes.BAD, NONE = Scenes.NONE;
    private static final String WRAP = "it is that day of the week which DAY leaves by 7";
    /** DAY 6, the last of its week; WARMTH is 9 in it, 5 in the one behind it, 0 in the next. */
    private static final String[] END_OF_WEEK = {"set(6, 0, 9)", "set(0, 0, 5)", "set(1, 0, 0)", "days(6)", "roll(0, 50)"};
    private static Edges edges;

    public static void main(String[] args) throws IOException {
        edges = new Edges(16, 21);
        runs();
        runsOfFew();
        runsTillTheLast();
        ahead();
        aheadByLean();
        falls();
        reign();
        decree();
        coup();
        edges.close();
    }

    private static void runs() {
        String sentence = "BY DAYS, n of them (0 to 60): which STAND then (what 0; bits)";
        Edge rich = edges.at(16, sentence, Scenes.RICH);
        for (int what = 0; what <= 4; what++) {
            rich.bounds("runs(@, " + what + ")", 0, 60);
        }
        rich.bounds("runs(0, @)", 0, 4).bounds("runs(60, @)", 0, 4);
        int[] now = {13, 0, 0, 67, 0};
        int[] last = {0, NONE, 60 - 46, 0, 9};
        for (int what = 0; what <= 4; what++) {
            rich.leaves("runs(0, " + what + ")", now[what]).leaves("runs(60, " + what + ")", last[what]);
        }
        int[] none = {0, NONE, 0, 0, 0};
        Edge fresh = edges.at(16, sentence).bounds("runs(@, 1)", 0, 60).bounds("runs(60, @)", 0, 4);
        for (int what = 0; what <= 4; what++) {
            fresh.leaves("runs(0, " + what + ")", none[what]).leaves("runs(60, " + what + ")", what == 2 ? 60 : none[what]);
        }
        edges.at(16, "the first that fits").leaves("runs(61, 1)", BAD).leaves("runs(-1, 1)", BAD);
    }

    private static void runsOfFew() {
        String beginning = "A FIGURE REIGNS in a DAY, if it does at the beginning of it";
        edges.at(16, beginning, "roll(0, 1)").is("runs(0, 1)", 0).is("runs(0, 4)", 0).is("runs(1, 1)", NONE).is("runs(1, 4)", 1)
            .is("runs(1, 2)", 0).is("runs(2, 2)", 1).is("runs(2, 4)", 1);
        edges.at(16, beginning, "roll(0, 1)", "roll(0, 2)").is("runs(1, 1)", 1).is("runs(1, 4)", 1).is("runs(2, 1)", NONE)
            .is("runs(2, 4)", 3).is("runs(2, 2)", 0).is("runs(3, 2)", 1);
        edges.at(16, "which REIGN in any of them (4; bits)", "roll(0, 1)", "roll(0, 2)", "roll(0, 3)", "roll(0, 4)", "roll(0, 5)")
            .is("runs(4, 4)", 15).is("runs(5, 4)", 31).is("runs(60, 4)", 31).is("runs(5, 2)", 0).is("runs(6, 2)", 1).is("runs(60, 2)", 55)
            .is("runs(0, 0)", 31).is("runs(1, 0)", 30).is("runs(4, 0)", 16).is("runs(5, 0)", 0);
        edges.at(16, "SIZE of all then (3)", "5*roll(1, 99)").is("runs(0, 3)", 495).is("runs(60, 3)", 495);
        edges.at(16, "BY DAYS: as it would be from now on", "roll(0, 3)", "days(1)").is("runs(1, 3)", 1).is("runs(2, 3)", 0);
    }

    private static void runsTillTheLast() {
        String nobody = "in how many of them nobody REIGNS (2)";
        edges.at(16, nobody, "roll(0, 59)").is("runs(60, 2)", 1).is("runs(59, 2)", 0);
        edges.at(16, nobody, "roll(0, 60)").is("runs(60, 2)", 0).is("runs(60, 0)", 0).is("runs(60, 1)", NONE);
        edges.at(16, nobody, "roll(0, 61)").is("runs(60, 2)", 0).is("runs(60, 0)", 1).is("runs(60, 1)", 0).is("runs(60, 3)", 1);
        edges.at(16, nobody, "roll(0, 0)").is("runs(60, 2)", 60).is("runs(1, 2)", 1).is("runs(0, 2)", 0);
        edges.at(16, WRAP, END_OF_WEEK).is("runs(1, 3)", 41).is("runs(2, 3)", 36).is("runs(3, 3)", 36).is("runs(7, 3)", 32).is("runs(8, 3)", 23);
        edges.at(16, "BY DAYS: as it would be from now on", Scenes.atTheLastDay("roll(0, 61)"))
            .leaves("runs(60, 0)", 1).leaves("runs(1, 3)", 60).leaves("runs(60, 3)", 1);
    }

    private static void ahead() {
        String sentence = "BY DAYS, n of them (0 to 60): SIZE of a FIGURE then (what 0), LEAN (1). BAD.";
        edges.at(17, sentence, Scenes.RICH).bounds("ahead(@, 1, 0)", 0, 3).bounds("ahead(@, 1, 1)", 0, 3).bounds("ahead(0, @, 0)", 0, 60)
            .bounds("ahead(0, @, 1)", 0, 60).bounds("ahead(0, 1, @)", 0, 1)
            .leaves("ahead(0, 0, 0)", 26).leaves("ahead(0, 0, 1)", 23).leaves("ahead(1, 60, 0)", 0).leaves("ahead(1, 60, 1)", 25)
            .leaves("ahead(3, 45, 0)", 22).leaves("ahead(3, 46, 0)", 0).leaves("ahead(3, 60, 1)", 0);
        edges.at(17, sentence).leaves("ahead(0, 0, 0)", BAD).is("5*roll(0, 61)", 5).bounds("ahead(@, 60, 0)", 0, 4)
            .is("ahead(4, 60, 0)", 1).is("ahead(4, 59, 0)", 2);
        edges.at(17, sentence, "roll(0, 60)").is("ahead(0, 59, 0)", 1).is("ahead(0, 60, 0)", 0);
        edges.at(17, WRAP, END_OF_WEEK).is("ahead(0, 1, 0)", 41).is("ahead(0, 2, 0)", 36).is("ahead(0, 3, 0)", 36);
        edges.at(17, "BY DAYS: as it would be from now on", Scenes.atTheLastDay("roll(0, 61)")).leaves("ahead(0, 60, 0)", 1);
    }

    private static void aheadByLean() {
        String most = "20 to each side at most";
        edges.at(17, most, "weather(0, 5)", "roll(0, 99)").is("ahead(0, 19, 1)", 39).is("ahead(0, 20, 1)", 40).is("ahead(0, 21, 1)", 40).is("ahead(0, 60, 1)", 40);
        edges.at(17, most, "weather(0, 3)", "roll(0, 99)").is("ahead(0, 19, 1)", 1).is("ahead(0, 20, 1)", 0).is("ahead(0, 21, 1)", 0).is("ahead(0, 60, 1)", 0);
        edges.at(17, "it FALLS: its SIZE is 0", "weather(0, 8)", "roll(0, 4)").is("ahead(0, 1, 0)", 4).is("ahead(0, 2, 0)", 0)
            .is("ahead(0, 1, 1)", 24).is("ahead(0, 2, 1)", 28).is("ahead(0, 3, 1)", 28).is("ahead(0, 60, 1)", 28);
    }

    private static void falls() {
        String sentence = "behind how many (0 to 60) a FIGURE does not STAND first. BAD; NONE: behind none.";
        edges.at(18, sentence, Scenes.RICH).bounds("falls(@)", 0, 3).leaves("falls(0)", 11).leaves("falls(1)", 0).leaves("falls(2)", 1).leaves("falls(3)", 46);
        edges.at(18, sentence).leaves("falls(0)", BAD).is("5*roll(0, 0)", 5).bounds("falls(@)", 0, 4).is("falls(4)", 0);
        edges.at(18, sentence, "roll(0, 1)", "roll(0, 59)", "roll(0, 60)", "roll(0, 61)", "roll(1, 1)")
            .is("falls(0)", 1).is("falls(1)", 59).is("falls(2)", 60).leaves("falls(3)", NONE).leaves("falls(4)", NONE);
        edges.at(18, "leans it (from upright, to either side) by more than its SIZE is then", "weather(0, 5)", "roll(0, 19)", "roll(0, 20)", "roll(0, 1)")
            .is("falls(0)", 20).is("falls(1)", NONE).is("falls(2)", 2);
        edges.at(18, WRAP, "set(0, 0, 9)", "days(6)", "roll(0, 5)", "roll(0, 11)", "roll(0, 10)").is("falls(0)", 2).is("falls(1)", 3).is("falls(2)", 2);
        edges.at(18, "BY DAYS: as it would be from now on", Scenes.atTheLastDay("roll(0, 60)")).leaves("falls(0)", 60);
    }

    private static void part(Edge edge, String call, int up, int down) {
        edge.leaves(call + ", 0)", up).leaves(call + ", 1)", down);
    }

    private static void reign() {
        String sentence = "BY DAYS, n of them (1 to 60): in which part a FIGURE REIGNS: 0, 1. BAD.";
        edges.at(19, sentence, Scenes.RICH).bounds("reign(@, 1, 0)", 0, 3).bounds("reign(@, 1, 1)", 0, 3).bounds("reign(0, @, 0)", 1, 60)
            .bounds("reign(0, @, 1)", 1, 60).bounds("reign(0, 1, @)", 0, 1);
        edges.at(19, sentence).leaves("reign(0, 1, 0)", BAD).leaves("reign(0, 1, 1)", BAD).is("5*roll(0, 0)", 5).bounds("reign(@, 60, 0)", 0, 4);
        String lowest = "Fractions are in lowest terms, told as two numbers, first the numerator, then the denominator, which is above 0 (0 is 0 by 1)";
        Edge one = edges.at(19, lowest, "roll(0, 1)");
        part(one, "reign(0, 1", 1, 1);
        part(one, "reign(0, 2", 1, 2);
        part(one, "reign(0, 60", 1, 60);
        Edge many = edges.at(19, lowest, "roll(0, 60)", "roll(0, 99)");
        part(many, "reign(0, 60", 1, 1);
        part(many, "reign(1, 60", 0, 1);
        Edge most = edges.at(19, lowest, "roll(0, 59)", "roll(0, 99)");
        part(most, "reign(0, 60", 59, 60);
        part(most, "reign(1, 60", 1, 60);
        Edge two = edges.at(19, lowest, "roll(0, 0)", "roll(0, 2)", "roll(0, 4)");
        part(two, "reign(0, 60", 0, 1);
        part(two, "reign(1, 2", 1, 1);
        part(two, "reign(1, 60", 1, 30);
        part(two, "reign(2, 2", 0, 1);
        part(two, "reign(2, 3", 1, 3);
        part(two, "reign(2, 4", 1, 2);
        Edge last = edges.at(19, "BY DAYS: as it would be from now on", Scenes.atTheLastDay("roll(0, 30)"));
        part(last, "reign(0, 60", 1, 2);
    }

    private static void decree() {
        String sentence = "DECREE behind n of them (0 to 60). BAD; NONE: nobody REIGNS.";
        edges.at(20, sentence, Scenes.RICH).bounds("decree(@)", 0, 60).leaves("decree(0)", 3).leaves("decree(60)", NONE);
        edges.at(20, sentence).bounds("decree(@)", 0, 60).leaves("decree(0)", NONE).leaves("decree(60)", NONE).is("roll(0, 0)", 1).leaves("decree(0)", NONE);
        edges.at(20, sentence, "roll(0, 60)").is("decree(59)", 0).is("decree(60)", NONE);
        edges.at(20, sentence, "roll(0, 61)").is("decree(60)", 0);
        String by4 = "DECREE: what LEAN (as told) of the one that REIGNS leaves by 4";
        edges.at(20, by4, "weather(0, 5)", "roll(0, 99)").is("decree(1)", 1).is("decree(3)", 3).is("decree(4)", 0).is("decree(19)", 3).is("decree(20)", 0).is("decree(21)", 0);
        edges.at(20, by4, "weather(0, 3)", "roll(0, 99)").is("decree(1)", 3).is("decree(3)", 1).is("decree(4)", 0).is("decree(19)", 1).is("decree(20)", 0).is("decree(21)", 0);
        edges.at(20, WRAP, "set(0, 1, 5)", "days(6)", "roll(0, 50)").is("decree(1)", 0).is("decree(2)", 1).is("decree(8)", 1).is("decree(9)", 2);
    }

    private static void coup() {
        String sentence = "behind how many (1 to 60) another FIGURE (or nobody) REIGNS first than now. NONE: behind none.";
        edges.at(21, sentence, Scenes.RICH).leaves("coup()", 11);
        edges.at(21, sentence).leaves("coup()", NONE).is("5*roll(0, 0)", 5).leaves("coup()", NONE);
        edges.at(21, sentence, "roll(0, 1)").is("coup()", 1);
        edges.at(21, sentence, "roll(0, 60)").is("coup()", 60);
        edges.at(21, sentence, "roll(0, 61)").leaves("coup()", NONE);
        edges.at(21, sentence, "roll(0, 60)", "roll(0, 99)").is("coup()", 60);
        edges.at(21, sentence, "roll(0, 61)", "roll(0, 1)").is("coup()", NONE);
        edges.at(21, sentence, "roll(0, 5)", "roll(0, 2)").is("coup()", 5);
        edges.at(21, sentence, "roll(0, 0)", "roll(0, 2)", "roll(0, 5)").is("coup()", 2);
        edges.at(21, WRAP, "set(0, 0, 9)", "days(6)", "roll(0, 5)").is("coup()", 2);
        edges.at(21, "BY DAYS: as it would be from now on", Scenes.atTheLastDay("roll(0, 60)")).leaves("coup()", 60);
    }
}
