import java.io.IOException;

/** The edges of promises 9 to 15: what is changed, and what a DAY does. */
public final class EdgesOfChangesTest {
    private static final int BAD = Scenes.BAD, STATE = Scenes.STATE, FULL = Scenes.FULL;
    private static Edges edges;

    public static void main(String[] args) throws IOException {
        edges = new Edges(9, 15);
        alter();
        set();
        roll();
        ice();
        salt();
        clear();
        days();
        daysAreFull();
        meltsThenTips();
        falls();
        leansAtMost();
        weekWraps();
        edges.close();
    }

    private static void alter() {
        String sentence = "KIND, SIZE, LEAN (what 0 to 2) of a FIGURE becomes v: what it was. BAD.";
        edges.at(9, sentence, Scenes.RICH).bounds("alter(@, 0, 1)", 0, 3).bounds("alter(0, @, 1)", 0, 2).bounds("alter(0, 0, @)", 0, 3)
            .bounds("alter(0, 1, @)", 0, 99).bounds("alter(0, 2, @)", 0, 40).bounds("alter(1, 1, @)", 0, 99);
        edges.at(9, sentence, Scenes.RICH)
            .changes("alter(0, 0, 3)", 0, "kind 0=3").leaves("alter(0, 0, 3)", 3).changes("alter(0, 0, 0)", 3, "kind 0=0")
            .changes("alter(3, 1, 99)", 40, "size 3=99").changes("alter(3, 1, 0)", 99, "size 3=0")
            .changes("alter(3, 2, 40)", 22, "lean 3=40").changes("alter(3, 2, 0)", 40, "lean 3=0");
        edges.at(9, sentence).leaves("alter(0, 0, 0)", BAD).is("5*roll(0, 1)", 5).bounds("alter(@, 2, 3)", 0, 4);
        edges.at(9, "A FIGURE STANDS, if its SIZE is above 0", Scenes.RICH).is("rule(4)", 13).is("alter(1, 1, 1)", 0).is("rule(4)", 15)
            .is("alter(1, 1, 0)", 1).is("rule(4)", 13);
        edges.at(9, "of a SIZE (0 to 99), with a LEAN (20 to the left to 20 to the right, told as 0 to 40; 20: upright)", "roll(0, 1)")
            .changes("alter(0, 2, 40)", 20, "lean 0=40").is("rule(4)", 1).changes("alter(0, 2, 0)", 40, "lean 0=0").is("rule(4)", 1);
    }

    private static void set() {
        String sentence = "WARMTH, WIND (what 0, 1) of a day of the week becomes v: what it was. BAD.";
        edges.at(10, sentence, Scenes.RICH).bounds("set(@, 0, 1)", 0, 6).bounds("set(@, 1, 1)", 0, 6).bounds("set(0, @, 1)", 0, 1)
            .bounds("set(0, 0, @)", 0, 9).bounds("set(6, 0, @)", 0, 9).bounds("set(0, 1, @)", 0, 8).bounds("set(6, 1, @)", 0, 8);
        edges.at(10, sentence, Scenes.RICH)
            .changes("set(0, 0, 9)", 2, "warmth 0=9").changes("set(0, 0, 0)", 9, "warmth 0=0").leaves("set(0, 0, 0)", 0)
            .changes("set(6, 1, 8)", 0, "wind 6=8").changes("set(6, 1, 0)", 8, "wind 6=0").changes("set(3, 0, 0)", 1, "warmth 3=0")
            .changes("set(3, 1, 5)", 4, "wind 3=5");
        edges.at(10, sentence).bounds("set(6, 0, @)", 0, 9).bounds("set(6, 1, @)", 0, 8);
    }

    private static void roll() {
        edges.at(11, "A FIGURE more, upright: how many there are", Scenes.RICH)
            .changes("roll(3, 99)", 5, "figures=5", "kind 4=3", "size 4=99", "lean 4=20");
        edges.at(11, "BAD; FULL.", Scenes.RICH).bounds("roll(@, 1)", 0, 3).bounds("roll(0, @)", 0, 99);
        edges.at(11, "BAD; FULL.").bounds("roll(@, 0)", 0, 3).bounds("roll(3, @)", 0, 99)
            .changes("roll(0, 0)", 1, "figures=1", "kind 0=0", "size 0=0", "lean 0=20").is("rule(4)", 0)
            .changes("roll(3, 99)", 2, "figures=2", "kind 1=3", "size 1=99", "lean 1=20").is("rule(4)", 2);
        edges.at(11, "1 FIGURES (5 at most)", Scenes.RICH).is("roll(0, 0)", 5)
            .leaves("roll(0, 0)", FULL).leaves("roll(3, 99)", FULL).is("clear(4)", 5).is("roll(0, 0)", 5);
        edges.at(11, "the first that fits", "5*roll(0, 0)").leaves("roll(4, 0)", BAD).leaves("roll(-1, 0)", BAD)
            .leaves("roll(0, 100)", BAD).leaves("roll(0, -1)", BAD);
        edges.at(11, "A FIGURE more, upright: how many there are", "tell(wet 5 40;wet 5 0;)", "clear(1)")
            .changes("roll(1, 7)", 2, "figures=2", "kind 1=1", "size 1=7", "lean 1=20");
    }

    private static void ice() {
        String sentence = "A FIGURE is iced (its KIND is 3): what it was. BAD; STATE: it does not STAND.";
        edges.at(12, sentence, Scenes.RICH).bounds("ice(@)", 0, 3).leaves("ice(1)", STATE)
            .changes("ice(0)", 0, "kind 0=3").leaves("ice(0)", 3).leaves("ice(3)", 3).is("figure(2, 1)", 1).changes("ice(2)", 2, "kind 2=3");
        edges.at(12, sentence).leaves("ice(0)", BAD).is("roll(1, 0)", 1).leaves("ice(0)", STATE).leaves("ice(1)", BAD)
            .is("alter(0, 1, 1)", 0).changes("ice(0)", 1, "kind 0=3");
    }

    private static void salt() {
        String sentence = "its SIZE is half (down) of what it was: that SIZE. BAD; STATE: it does not STAND.";
        int[][] halves = {{99, 49}, {98, 49}, {4, 2}, {3, 1}, {2, 1}, {1, 0}};
        for (int[] row : halves) {
            edges.at(13, sentence, "roll(0, 50)", "roll(2, " + row[0] + ")").changes("salt(1)", row[1], "size 1=" + row[1]);
        }
        edges.at(13, sentence, "roll(0, 1)").is("salt(0)", 0).is("rule(4)", 0).leaves("salt(0)", STATE);
        edges.at(13, sentence, Scenes.RICH).bounds("salt(@)", 0, 3).leaves("salt(1)", STATE).changes("salt(0)", 13, "size 0=13");
        edges.at(13, sentence).leaves("salt(0)", BAD).is("roll(0, 0)", 1).leaves("salt(0)", STATE).leaves("salt(1)", BAD);
        edges.at(13, sentence, "tell(wet 20 40;)").changes("salt(0)", 10, "size 0=10").is("rule(4)", 1);
    }

    private static void clear() {
        String sentence = "FIGURES are the first n alone: how many there were. BAD (n above that, too).";
        edges.at(14, sentence, Scenes.RICH).bounds("clear(@)", 0, 4).leaves("clear(4)", 4)
            .changes("clear(3)", 4, "figures=3", "kind 3", "size 3", "lean 3").leaves("clear(4)", BAD).leaves("figure(3, 0)", BAD)
            .is("clear(0)", 3).is("rule(0)", 0).leaves("clear(1)", BAD).leaves("figure(0, 0)", BAD);
        edges.at(14, sentence).bounds("clear(@)", 0, 0).leaves("clear(0)", 0);
        edges.at(14, sentence, "5*roll(0, 1)").bounds("clear(@)", 0, 5).leaves("clear(5)", 5).is("clear(4)", 5).is("roll(1, 2)", 5);
    }

    private static void days() {
        String sentence = "n DAYS (0 to 30): how many FIGURES STAND then. BAD; FULL: DAY would be 1000 or more.";
        edges.at(15, sentence, Scenes.RICH).bounds("days(@)", 0, 30).leaves("days(0)", 3);
        edges.at(15, sentence).bounds("days(@)", 0, 30).leaves("days(0)", 0).changes("days(30)", 0, "day=30").changes("days(1)", 0, "day=31");
        edges.at(15, sentence, "5*roll(0, 31)").leaves("days(0)", 5)
            .changes("days(30)", 5, "day=30", "size 0=1", "size 1=1", "size 2=1", "size 3=1", "size 4=1")
            .changes("days(1)", 0, "day=31", "size 0=0", "size 1=0", "size 2=0", "size 3=0", "size 4=0").changes("days(1)", 0, "day=32");
    }

    private static void daysAreFull() {
        String sentence = "FULL: DAY would be 1000 or more";
        edges.at(15, sentence, Scenes.atTheLastDay("roll(0, 99)")).is("rule(1)", 999).leaves("days(0)", 1)
            .leaves("days(1)", FULL).leaves("days(30)", FULL);
        edges.at(15, "the first that fits", Scenes.atTheLastDay("roll(0, 99)")).leaves("days(31)", BAD).leaves("days(-1)", BAD)
            .leaves("days(MAX)", BAD).leaves("days(MIN)", BAD);
        edges.at(15, sentence, "32*days(30)", "days(10)", "roll(0, 99)").is("rule(1)", 970)
            .leaves("days(30)", FULL).changes("days(29)", 1, "day=999", "size 0=70").leaves("days(1)", FULL);
        edges.at(15, sentence, "32*days(30)", "days(9)", "roll(0, 99)").changes("days(30)", 1, "day=999", "size 0=69").leaves("days(1)", FULL);
    }

    private static void meltsThenTips() {
        String left = "it MELTS, then it TIPS (also if nothing of it is left)";
        edges.at(15, left, "tell(wet 2 20;day 0 1 8;)").changes("days(1)", 0, "day=1", "size 0=0", "lean 0=24");
        edges.at(15, left, "tell(powder 1 20;day 0 9 0;)").changes("days(1)", 0, "day=1", "size 0=0", "lean 0=16");
        edges.at(15, left, "tell(packed 4 20;day 0 9 7;)").changes("days(1)", 0, "day=1", "size 0=0", "lean 0=21");
        edges.at(15, left, "tell(iced 3 20;day 0 9 1;)").changes("days(1)", 0, "day=1", "size 0=0", "lean 0=18");
        edges.at(15, left, "tell(powder 9 20;day 0 9 4;)").changes("days(1)", 0, "day=1", "size 0=0");
        String standing = "each FIGURE that STANDS, by order";
        edges.at(15, standing, "tell(powder 0 30;wet 0 20;packed 0 0;iced 0 40;day 0 9 8;)").changes("days(1)", 0, "day=1");
        edges.at(15, standing, "tell(powder 1 20;day 0 1 5;day 1 1 5;)").is("days(1)", 0).changes("days(1)", 0, "day=2");
    }

    private static void falls() {
        String sentence = "leans it (from upright, to either side) by more than its SIZE is then, it FALLS: its SIZE is 0";
        edges.at(15, sentence, "tell(powder 4 20;powder 3 20;day 0 0 8;)")
            .changes("days(1)", 1, "day=1", "lean 0=24", "lean 1=24", "size 1=0");
        edges.at(15, sentence, "tell(powder 4 20;powder 3 20;day 0 0 0;)")
            .changes("days(1)", 1, "day=1", "lean 0=16", "lean 1=16", "size 1=0");
        edges.at(15, sentence, "tell(powder 5 20;powder 4 20;day 0 1 8;)")
            .changes("days(1)", 1, "day=1", "lean 0=24", "size 0=4", "lean 1=24", "size 1=0");
        edges.at(15, sentence, "tell(powder 5 20;powder 4 20;day 0 1 0;)")
            .changes("days(1)", 1, "day=1", "lean 0=16", "size 0=4", "lean 1=16", "size 1=0");
        edges.at(15, sentence, "tell(packed 20 40;packed 19 40;packed 20 0;packed 19 0;)").changes("days(1)", 2, "day=1", "size 1=0", "size 3=0");
        edges.at(15, sentence, "tell(packed 1 21;packed 1 22;packed 1 19;packed 1 18;packed 1 20;)")
            .changes("days(1)", 3, "day=1", "size 1=0", "size 3=0");
        edges.at(15, sentence, "tell(powder 3 24;day 0 0 3;)").changes("days(1)", 1, "day=1", "lean 0=23");
    }

    private static void leansAtMost() {
        String sentence = "20 to each side at most";
        edges.at(15, sentence, "tell(powder 99 35;powder 99 36;powder 99 37;wet 99 40;iced 99 39;day 0 0 8;)")
            .changes("days(1)", 5, "day=1", "lean 0=39", "lean 1=40", "lean 2=40", "lean 4=40");
        edges.at(15, sentence, "tell(powder 99 5;powder 99 4;powder 99 3;wet 99 0;iced 99 1;day 0 0 0;)")
            .changes("days(1)", 5, "day=1", "lean 0=1", "lean 1=0", "lean 2=0", "lean 4=0");
        edges.at(15, sentence, "tell(packed 99 37;packed 99 38;packed 99 39;packed 99 40;day 0 0 8;)")
            .changes("days(1)", 4, "day=1", "lean 0=39", "lean 1=40", "lean 2=40");
        edges.at(15, sentence, "tell(packed 99 3;packed 99 2;packed 99 1;packed 99 0;day 0 0 0;)")
            .changes("days(1)", 4, "day=1", "lean 0=1", "lean 1=0", "lean 2=0");
        edges.at(15, sentence, "tell(powder 99 40;day 0 0 8;day 1 0 3;)").is("days(2)", 1).is("figure(0, 2)", 39);
    }

    private static void weekWraps() {
        String sentence = "it is that day of the week which DAY leaves by 7";
        String told = "tell(powder 99 20;day 6 9 5;day 0 5 6;day 1 0 3;)";
        edges.at(15, sentence, told).is("days(6)", 1).is("figure(0, 1)", 90).is("figure(0, 2)", 21)
            .changes("days(1)", 1, "day=7", "size 0=81", "lean 0=22").changes("days(1)", 1, "day=8", "size 0=76", "lean 0=24")
            .changes("days(1)", 1, "day=9", "lean 0=23");
        edges.at(15, sentence, told).changes("days(9)", 1, "day=9", "size 0=76", "lean 0=23");
        edges.at(15, "DAY is 1 more", told).changes("days(7)", 1, "day=7", "size 0=81", "lean 0=22");
    }
}
