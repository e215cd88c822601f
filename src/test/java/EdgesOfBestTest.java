import java.io.IOException;

/** The edges of promises 22 to 28: what is best. */
public final class EdgesOfBestTest {
    private static final int BAD = Scenes.BAD, NONE = Scenes.NONE;
    private static final String WRAP = "it is that day of the week which DAY leaves by 7";
    private static Edges edges;

    public static void main(String[] args) throws IOException {
        edges = new Edges(22, 28);
        need();
        bucket();
        bucketOfSeveral();
        swap();
        swapOfSeveral();
        lee();
        leeOfSeveral();
        kind();
        face();
        thaw();
        edges.close();
    }

    private static void need() {
        String sentence = "The least SIZE (0 to 99) of a FIGURE by which it STANDS behind n DAYS (0 to 60). BAD; NONE: by none.";
        edges.at(22, sentence, Scenes.RICH).bounds("need(@, 1)", 0, 3).bounds("need(0, @)", 0, 60)
            .leaves("need(0, 0)", 1).leaves("need(1, 0)", 1).leaves("need(1, 1)", 5);
        edges.at(22, sentence).leaves("need(0, 0)", BAD).is("5*roll(0, 0)", 5).bounds("need(@, 60)", 0, 4).leaves("need(4, 60)", 61).leaves("need(4, 0)", 1);
        edges.at(22, sentence, "weather(9, 4)", "roll(0, 1)").leaves("need(0, 10)", 91).leaves("need(0, 11)", NONE).leaves("need(0, 60)", NONE);
        edges.at(22, sentence, "roll(2, 99)").leaves("need(0, 49)", 99).leaves("need(0, 50)", NONE);
        String leans = "leans it (from upright, to either side) by more than its SIZE is then, it FALLS";
        edges.at(22, leans, "weather(0, 4)", "tell(packed 1 40;packed 1 0;powder 1 40;)")
            .is("need(0, 0)", 1).is("need(0, 1)", 20).is("need(0, 60)", 20).is("need(1, 1)", 20).is("need(2, 1)", 21).is("need(2, 60)", 80);
        edges.at(22, WRAP, "set(0, 0, 9)", "days(6)", "roll(0, 5)").is("need(0, 1)", 2).is("need(0, 2)", 11).is("need(0, 3)", 12);
        edges.at(22, "STANDS behind n DAYS (0 to 60)", Scenes.atTheLastDay("roll(0, 1)")).leaves("need(0, 60)", 61);
    }

    private static void bucket() {
        String sentence = "that is to be iced now so that nobody REIGNS in fewest of 60 DAYS, in fewer than as it is, of several the first (what 0), in how many (1). BAD; NONE: none.";
        edges.at(23, sentence, Scenes.RICH).bounds("bucket(@)", 0, 1);
        edges.at(23, sentence).bounds("bucket(@)", 0, 1).leaves("bucket(0)", NONE).leaves("bucket(1)", NONE)
            .is("5*roll(0, 0)", 5).leaves("bucket(0)", NONE).leaves("bucket(1)", NONE);
        edges.at(23, "in fewer than as it is", "roll(0, 60)").leaves("bucket(0)", NONE).leaves("bucket(1)", NONE);
        edges.at(23, "in fewer than as it is", "roll(0, 59)").leaves("bucket(0)", 0).leaves("bucket(1)", 0);
        edges.at(23, "in fewer than as it is", "weather(9, 4)", "roll(3, 5)").leaves("bucket(0)", NONE).leaves("bucket(1)", NONE);
        edges.at(23, "in fewer than as it is", "weather(9, 4)", "roll(0, 3)").leaves("bucket(0)", NONE).is("alter(0, 1, 4)", 3)
            .leaves("bucket(0)", 0).leaves("bucket(1)", 58);
        edges.at(23, "nobody REIGNS in fewest of 60 DAYS", Scenes.atTheLastDay("roll(0, 59)")).leaves("bucket(0)", 0).leaves("bucket(1)", 0);
    }

    private static void bucketOfSeveral() {
        edges.at(23, "of several the first", "2*roll(0, 5)").is("bucket(0)", 0).is("bucket(1)", 0);
        edges.at(23, "The FIGURE (that STANDS)", "roll(0, 0)", "2*roll(0, 5)").leaves("bucket(0)", 1).leaves("bucket(1)", 0);
        edges.at(23, "nobody REIGNS in fewest of 60 DAYS", "weather(9, 4)", "roll(0, 27)", "roll(0, 54)").leaves("bucket(0)", 1).leaves("bucket(1)", 42);
        edges.at(23, "nobody REIGNS in fewest of 60 DAYS", "weather(9, 4)", "4*roll(0, 1)", "roll(0, 9)").leaves("bucket(0)", 4).leaves("bucket(1)", 57);
        edges.at(23, "nobody REIGNS in fewest of 60 DAYS", "weather(9, 4)", "roll(0, 99)", "roll(0, 3)").leaves("bucket(0)", 0).leaves("bucket(1)", 27);
    }

    private static void swap() {
        String sentence = "10 times the lesser and the greater, of several the least (what 0), in how many (1). BAD; NONE: by none.";
        edges.at(24, sentence, Scenes.RICH).bounds("swap(@, 0)", 1, 60).bounds("swap(@, 1)", 1, 60).bounds("swap(1, @)", 0, 1)
            .leaves("swap(10, 0)", NONE).leaves("swap(11, 0)", 3).leaves("swap(11, 1)", 0).leaves("swap(60, 0)", 3).leaves("swap(60, 1)", 1);
        edges.at(24, sentence).bounds("swap(@, 0)", 1, 60).bounds("swap(60, @)", 0, 1).leaves("swap(1, 0)", NONE).leaves("swap(60, 1)", NONE)
            .is("roll(0, 1)", 1).leaves("swap(1, 0)", NONE).leaves("swap(60, 1)", NONE);
        String atTheEnd = "REIGNS at the end than at the beginning";
        edges.at(24, atTheEnd, "roll(0, 1)", "roll(1, 1)").is("swap(1, 0)", 1).is("swap(1, 1)", 0);
        edges.at(24, atTheEnd, "roll(0, 3)", "roll(1, 1)").is("swap(2, 0)", NONE).is("swap(2, 1)", NONE).is("swap(3, 0)", 1).is("swap(3, 1)", 0);
        edges.at(24, "in fewest of n DAYS (1 to 60)", "roll(0, 60)", "roll(1, 1)").is("swap(59, 0)", NONE).is("swap(60, 0)", 1).is("swap(60, 1)", 0);
        edges.at(24, "in fewest of n DAYS (1 to 60)", "roll(0, 61)", "roll(1, 1)").is("swap(60, 0)", NONE).is("swap(60, 1)", NONE);
        edges.at(24, "in fewest of n DAYS (1 to 60)", Scenes.atTheLastDay("roll(0, 60)", "roll(1, 1)")).leaves("swap(60, 0)", 1);
    }

    private static void swapOfSeveral() {
        edges.at(24, "of several the least", "roll(0, 3)", "3*roll(1, 50)").is("swap(3, 0)", 1).is("swap(3, 1)", 0);
        edges.at(24, "10 times the lesser and the greater", "roll(0, 3)", "3*roll(0, 2)", "roll(1, 50)").is("swap(10, 0)", 4).is("swap(10, 1)", 0);
        edges.at(24, "(or nobody, somebody)", "roll(0, 3)", "roll(0, 5)").is("swap(2, 0)", NONE).is("swap(4, 0)", 1).is("swap(4, 1)", 0)
            .is("swap(5, 0)", 1).is("swap(5, 1)", 1).is("swap(60, 0)", 1).is("swap(60, 1)", 1);
        edges.at(24, "in fewer than as it is", "roll(0, 5)", "roll(0, 3)").is("swap(60, 0)", NONE).is("swap(60, 1)", NONE);
        edges.at(24, "in fewer than as it is", "5*roll(0, 5)").is("swap(60, 0)", NONE).is("swap(60, 1)", NONE);
        edges.at(24, "Two FIGURES that are to change places by order (all of them)", "roll(3, 0)", "roll(0, 3)", "roll(1, 50)")
            .leaves("swap(10, 0)", 2).leaves("swap(10, 1)", 0);
    }

    private static void lee() {
        String sentence = "so that most FIGURES STAND behind n DAYS (0 to 60), more than as it is, of several the first (what 0), how many (1). BAD; NONE: none.";
        edges.at(25, sentence, Scenes.RICH).bounds("lee(@, 0)", 0, 60).bounds("lee(@, 1)", 0, 60).bounds("lee(1, @)", 0, 1)
            .leaves("lee(0, 0)", NONE).leaves("lee(45, 0)", NONE).leaves("lee(46, 0)", 6).leaves("lee(46, 1)", 1).leaves("lee(60, 0)", 6);
        edges.at(25, sentence).bounds("lee(@, 0)", 0, 60).leaves("lee(0, 0)", NONE).leaves("lee(60, 0)", NONE).leaves("lee(60, 1)", NONE);
        edges.at(25, sentence, "tell(powder 3 20;day 0 0 8;)").leaves("lee(0, 0)", NONE).leaves("lee(0, 1)", NONE).leaves("lee(1, 0)", 0).leaves("lee(1, 1)", 1);
        edges.at(25, "The day of the week whose WIND had better be 4", "tell(packed 1 20;day 6 0 8;)").leaves("lee(6, 0)", NONE).leaves("lee(7, 0)", 6)
            .leaves("lee(7, 1)", 1).leaves("lee(60, 0)", 6).leaves("lee(60, 1)", 1);
        edges.at(25, "The day of the week whose WIND had better be 4", "tell(packed 1 20;day 6 0 0;)").leaves("lee(6, 0)", NONE).leaves("lee(7, 0)", 6);
        edges.at(25, "whose WIND had better be 4", "tell(powder 1 21;day 0 0 8;)").leaves("lee(1, 0)", 0).leaves("lee(1, 1)", 1);
        edges.at(25, "whose WIND had better be 4", "tell(powder 1 19;day 0 0 0;)").leaves("lee(1, 0)", 0).leaves("lee(1, 1)", 1);
        edges.at(25, "whose WIND had better be 4", "tell(powder 1 22;powder 1 18;day 0 0 5;)").leaves("lee(1, 0)", NONE).leaves("lee(1, 1)", NONE);
        edges.at(25, WRAP, "set(0, 1, 8)", "days(6)", "roll(1, 1)").is("lee(1, 0)", NONE).is("lee(2, 0)", 0).is("lee(2, 1)", 1);
        edges.at(25, "behind n DAYS (0 to 60)", Scenes.atTheLastDay("roll(1, 1)", "set(0, 1, 8)")).leaves("lee(2, 0)", NONE).leaves("lee(3, 0)", 0).leaves("lee(60, 0)", 0);
    }

    private static void leeOfSeveral() {
        edges.at(25, "of several the first", "tell(packed 3 20;day 2 0 8;day 5 0 8;)").is("lee(5, 0)", NONE).is("lee(6, 0)", 2).is("lee(6, 1)", 1)
            .is("lee(12, 0)", 2).is("lee(13, 0)", NONE);
        edges.at(25, "so that most FIGURES STAND", "tell(iced 1 20;packed 1 20;day 1 1 6;day 3 1 8;)").is("lee(4, 0)", 3).is("lee(4, 1)", 1);
        edges.at(25, "so that most FIGURES STAND", "tell(packed 1 20;packed 1 20;packed 1 20;packed 1 20;packed 1 20;day 4 1 8;)").is("lee(5, 0)", 4).is("lee(5, 1)", 5);
        edges.at(25, "more than as it is", "tell(packed 9 20;day 4 1 8;)").leaves("lee(5, 0)", NONE).leaves("lee(5, 1)", NONE);
    }

    private static void kind() {
        String sentence = "The KIND of a FIGURE by which it STANDS longest (falls(), 61 for NONE), of several the first (what 0), behind how many DAYS it FALLS (1). BAD.";
        edges.at(26, sentence, Scenes.RICH).bounds("kind(@, 0)", 0, 3).bounds("kind(@, 1)", 0, 3).bounds("kind(0, @)", 0, 1)
            .leaves("kind(1, 0)", 0).leaves("kind(1, 1)", 0);
        edges.at(26, sentence).leaves("kind(0, 0)", BAD).leaves("kind(0, 1)", BAD).is("5*roll(3, 0)", 5).bounds("kind(@, 0)", 0, 4)
            .leaves("kind(4, 0)", 0).leaves("kind(4, 1)", 0);
        edges.at(26, sentence, "weather(4, 4)", "roll(0, 60)", "roll(0, 61)", "roll(3, 1)")
            .leaves("kind(0, 0)", 3).leaves("kind(0, 1)", 60).leaves("kind(1, 0)", 3).leaves("kind(1, 1)", 61)
            .leaves("kind(2, 0)", 0).leaves("kind(2, 1)", 1);
        edges.at(26, "of several the first", "roll(2, 5)").is("kind(0, 0)", 1).is("kind(0, 1)", 61).is("weather(0, 4)", 4).is("kind(0, 0)", 0).is("kind(0, 1)", 61);
        edges.at(26, WRAP, "set(0, 0, 9)", "days(6)", "roll(2, 4)").is("kind(0, 0)", 3).is("kind(0, 1)", 9);
        edges.at(26, "(falls(), 61 for NONE)", Scenes.atTheLastDay("roll(2, 1)")).leaves("kind(0, 1)", 61);
    }

    private static void face() {
        String sentence = "The LEAN of a FIGURE by which it STANDS longest (falls(), 61 for NONE), of several the first (what 0), behind how many DAYS it FALLS (1). BAD.";
        edges.at(27, sentence, Scenes.RICH).bounds("face(@, 0)", 0, 3).bounds("face(@, 1)", 0, 3).bounds("face(0, @)", 0, 1)
            .leaves("face(1, 0)", 0).leaves("face(1, 1)", 0);
        edges.at(27, sentence).leaves("face(0, 0)", BAD).leaves("face(0, 1)", BAD).is("5*roll(3, 0)", 5).bounds("face(@, 0)", 0, 4).leaves("face(4, 1)", 0);
        edges.at(27, sentence, "roll(0, 60)", "roll(0, 61)", "roll(0, 1)").leaves("face(0, 0)", 19).leaves("face(0, 1)", 60)
            .leaves("face(1, 0)", 19).leaves("face(1, 1)", 61).leaves("face(2, 0)", 0).leaves("face(2, 1)", 1);
        edges.at(27, "told as 0 to 40; 20: upright", "weather(0, 3)", "roll(0, 19)", "roll(0, 20)").leaves("face(0, 0)", 40).leaves("face(0, 1)", 40)
            .leaves("face(1, 0)", 0).leaves("face(1, 1)", 61);
        edges.at(27, "told as 0 to 40; 20: upright", "weather(0, 5)", "roll(0, 19)", "roll(0, 20)").leaves("face(0, 0)", 0).leaves("face(0, 1)", 40)
            .leaves("face(1, 0)", 0).leaves("face(1, 1)", 61);
    }

    private static void thaw() {
        String sentence = "The greatest v (0 to 9) such that, were WARMTH v on all days of the week, a FIGURE STANDS behind n DAYS (0 to 60). BAD; NONE: none.";
        edges.at(28, sentence, Scenes.RICH).bounds("thaw(@, 1)", 0, 3).bounds("thaw(0, @)", 0, 60).leaves("thaw(0, 0)", 9).leaves("thaw(1, 0)", NONE).leaves("thaw(1, 60)", NONE);
        edges.at(28, sentence).leaves("thaw(0, 0)", BAD).is("5*roll(0, 99)", 5).bounds("thaw(@, 60)", 0, 4)
            .leaves("thaw(4, 0)", 9).leaves("thaw(4, 10)", 9).leaves("thaw(4, 11)", 8).leaves("thaw(4, 60)", 1);
        edges.at(28, sentence, "roll(0, 61)", "roll(0, 60)", "roll(3, 1)").is("thaw(0, 60)", 1).is("thaw(1, 60)", 0).is("thaw(1, 59)", 1).is("thaw(2, 60)", 3);
        edges.at(28, sentence, "tell(powder 19 40;powder 20 40;powder 28 40;powder 29 40;powder 19 0;)").leaves("thaw(0, 0)", 9).leaves("thaw(0, 1)", NONE)
            .leaves("thaw(1, 1)", 0).leaves("thaw(2, 1)", 8).leaves("thaw(3, 1)", 9).leaves("thaw(4, 1)", NONE);
        edges.at(28, WRAP, "set(0, 1, 8)", "days(6)", "roll(0, 10)").is("thaw(0, 1)", 9).is("thaw(0, 2)", 3);
        edges.at(28, "STANDS behind n DAYS (0 to 60)", Scenes.atTheLastDay("roll(0, 99)")).leaves("thaw(0, 60)", 1);
    }
}
