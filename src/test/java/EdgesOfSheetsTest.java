import java.io.IOException;

/** The edges of promises 38 to 44: images, sheets. */
public final class EdgesOfSheetsTest {
    private static final int BAD = Scenes.BAD, STATE = Scenes.STATE, NONE = Scenes.NONE;
    private static final int NULL = 1, INDEX = 2, CAST = 3;
    private static final String REFUSED = "the i-th, whole, is refused by roll() (in whichever way): then none came; the first met";
    private static final String MACHINE = "What the machine refuses: those that were whole ahead came";
    private static Edges edges;

    public static void main(String[] args) throws IOException {
        edges = new Edges(38, 44);
        keep();
        back();
        sheet();
        lay();
        lowestBits();
        readArguments();
        readNothing();
        readPastTheRow();
        readOtherLanes();
        readRefused();
        readWhenFull();
        torn();
        count();
        countOfSheet0();
        edges.close();
    }

    private static void keep() {
        String sentence = "IMAGE k (0, 1) is FIGURES (all of them), the week, DAY: whether there was one (1, 0). BAD.";
        edges.at(38, sentence, Scenes.RICH).bounds("keep(@)", 0, 1).changes("keep(0)", 0, "images=2", "image 0").leaves("keep(0)", 1)
            .changes("keep(1)", 1, "image 1").leaves("keep(1)", 1);
        edges.at(38, sentence).bounds("keep(@)", 0, 1).changes("keep(1)", 0, "images=1", "image 1").leaves("keep(1)", 1).changes("keep(0)", 0, "images=2", "image 0");
        edges.at(38, sentence, "keep(0)", "5*roll(3, 9)", "set(6, 1, 8)", "days(3)").is("back(0)", 0).is("rule(0)", 0).is("week(6, 1)", 4).is("rule(1)", 0);
        edges.at(38, sentence, "5*roll(3, 9)", "keep(0)", "alter(4, 2, 0)", "set(6, 0, 8)", "clear(2)").is("back(0)", 0).is("rule(0)", 5)
            .is("figure(4, 0)", 3).is("figure(4, 1)", 9).is("figure(4, 2)", 20).is("week(6, 0)", 1);
    }

    private static void back() {
        String sentence = "All is as IMAGE k: DAY. BAD; STATE: there is none.";
        edges.at(39, sentence, Scenes.RICH).bounds("back(@)", 0, 1).leaves("back(0)", STATE)
            .changes("back(1)", 2, "day=2", "size 0=27", "lean 0=21", "size 2=3").leaves("back(1)", 2);
        edges.at(39, sentence).leaves("back(0)", STATE).leaves("back(1)", STATE).leaves("back(2)", BAD).leaves("back(-1)", BAD)
            .is("keep(0)", 0).leaves("back(0)", 0).leaves("back(1)", STATE);
        edges.at(39, sentence, Scenes.atTheLastDay("keep(1)", "tell(!)")).leaves("back(1)", 999).leaves("days(1)", Scenes.FULL);
        edges.at(39, sentence, "keep(1)", "33*days(30)", "days(9)").is("days(1)", Scenes.FULL).is("back(1)", 0).is("days(30)", 0).is("rule(1)", 30);
        edges.at(39, sentence, "roll(0, 9)", "keep(0)", "alter(0, 1, 7)").is("back(0)", 0).is("figure(0, 1)", 9).is("alter(0, 1, 5)", 9)
            .is("back(0)", 0).is("figure(0, 1)", 9);
        edges.at(39, "IMAGES are gone", "keep(0)", "keep(1)").is("text()", 0).leaves("back(0)", STATE).leaves("back(1)", STATE).is("keep(0)", 0);
    }

    private static void sheet() {
        String sentence = "A SHEET is a new row of CELLS 0: 1. BAD: also n above 40; -14 (SIZE): n below 0.";
        for (Edge edge : new Edge[] {edges.at(40, sentence, Scenes.RICH), edges.at(40, sentence)}) {
            edge.bounds("sheet(@, 0, 1)", 0, 3).bounds("sheet(0, @, 1)", 0, 2).leaves("sheet(0, 1, 41)", BAD).leaves("sheet(0, 1, MAX)", BAD)
                .leaves("sheet(0, 1, -1)", -14).leaves("sheet(3, 0, -1)", -14).leaves("sheet(0, 1, MIN)", -14)
                .changes("sheet(3, 2, 40)", 1, "sheet 3=lane 2 0,0 0,0 0,0 0,0 length 40").leaves("sheet(3, 2, 41)", BAD).leaves("sheet(3, 2, -1)", -14)
                .changes("sheet(3, 2, 0)", 1, "sheet 3=lane 2 (0) length 0");
        }
        edges.at(40, "the first that fits", Scenes.RICH).leaves("sheet(4, 0, -1)", BAD).leaves("sheet(-1, 0, -1)", BAD)
            .leaves("sheet(0, 3, -1)", BAD).leaves("sheet(0, -1, -1)", BAD);
        edges.at(40, "a new row of CELLS 0", Scenes.RICH).changes("sheet(0, 0, 4)", 1, "sheet 0=lane 0 0,0 0,0 (0) length 4")
            .changes("sheet(0, 1, 2)", 1, "sheet 0=lane 1 0,0 (0) length 2").changes("sheet(0, 2, 1)", 1, "sheet 0=lane 2 (0) length 1")
            .changes("sheet(0, 0, 0)", 1, "sheet 0=lane 0 (0) length 0");
    }

    private static void lay() {
        String sentence = "CELL i of a SHEET becomes v (its lowest bits): 1. BAD: k; -10 less the FAULT: NULL, INDEX.";
        edges.at(41, sentence, Scenes.RICH).bounds("lay(@, 0, 2)", 0, 3)
            .leaves("lay(3, 0, 1)", -11).leaves("lay(3, -1, 1)", -11).leaves("lay(3, 40, 1)", -11)
            .leaves("lay(0, 4, 1)", -12).leaves("lay(0, -1, 1)", -12).leaves("lay(0, MIN, 1)", -12).leaves("lay(0, MAX, 1)", -12)
            .leaves("lay(2, 0, 1)", -12).leaves("lay(2, -1, 1)", -12)
            .changes("lay(0, 0, 2)", 1, "sheet 0=lane 0 2,17 3,5 (0) length 4").changes("lay(0, 3, 99)", 1, "sheet 0=lane 0 2,17 3,99 (0) length 4")
            .changes("lay(1, 2, 3)", 1, "sheet 1=lane 1 0,9 3,0 (0) length 5");
        edges.at(41, sentence, "sheet(1, 2, 40)").is("lay(1, 38, 3)", 1).is("lay(1, 39, 8)", 1).leaves("lay(1, 40, 8)", -12)
            .is("read(1, 2, 38, 1)", 1).is("figure(0, 0)", 3).is("figure(0, 1)", 8);
        edges.at(41, "the first that fits", Scenes.RICH).leaves("lay(4, -1, 0)", BAD).leaves("lay(-1, 99, 0)", BAD);
    }

    private static void laid(int lane, String kind, String size, int answer, int... figure) {
        Edge edge = edges.at(41, "are rows of BYTES (lane 0), SHORTS (1), INTS (2), all with a sign", "sheet(2, " + lane + ", 2)")
            .is("lay(2, 0, " + kind + ")", 1).is("lay(2, 1, " + size + ")", 1).is("read(2, " + lane + ", 0, 1)", answer);
        for (int what = 0; what < figure.length; what++) {
            edge.is("figure(0, " + what + ")", figure[what]);
        }
    }

    private static void lowestBits() {
        laid(0, "259", "355", 1, 3, 99, 20);
        laid(0, "-256", "-157", 1, 0, 99, 20);
        laid(0, "256", "65536", 1, 0, 0, 20);
        laid(0, "MIN", "MIN", 1, 0, 0, 20);
        laid(0, "1", "128", -20);
        laid(0, "1", "255", -20);
        laid(0, "MAX", "1", -20);
        laid(1, "65539", "65635", 1, 3, 99, 20);
        laid(1, "-65536", "-65437", 1, 0, 99, 20);
        laid(1, "MIN", "MIN", 1, 0, 0, 20);
        laid(1, "259", "1", -20);
        laid(1, "1", "355", -20);
        laid(1, "1", "32768", -20);
        laid(2, "3", "99", 1, 3, 99, 20);
        laid(2, "65539", "1", -20);
        laid(2, "1", "65635", -20);
        laid(2, "MIN", "1", -20);
        laid(2, "1", "MAX", -20);
    }

    private static void readArguments() {
        String bad = "BAD: k, lane, n; -20 less i (0 on)";
        edges.at(42, bad, Scenes.RICH).bounds("read(@, 0, 0, 1)", 0, 3).bounds("read(1, @, 0, 1)", 0, 2).bounds("read(0, 0, 0, @)", 0, 20).bounds("read(3, 1, 0, @)", 0, 20);
        edges.at(42, bad).bounds("read(@, 0, 0, 0)", 0, 3).bounds("read(0, @, 0, 0)", 0, 2).bounds("read(0, 0, 0, @)", 0, 20);
        edges.at(42, "two CELLS each from CELL f on, one behind another as by roll(): how many came", Scenes.RICH)
            .changes("read(0, 0, 0, 1)", 1, "torn=0", "figures=5", "kind 4=1", "size 4=17", "lean 4=20");
        edges.at(42, "two CELLS each from CELL f on, one behind another as by roll(): how many came", Scenes.RICH).is("clear(0)", 4)
            .changes("read(0, 0, 0, 2)", 2, "torn=0", "figures=2", "kind 0=1", "size 0=17", "lean 0=20", "kind 1=3", "size 1=5", "lean 1=20")
            .is("clear(0)", 2).changes("read(0, 0, 2, 1)", 1, "figures=1", "kind 0=3", "size 0=5", "lean 0=20")
            .is("lay(0, 1, 3)", 1).is("lay(0, 2, 88)", 1).changes("read(0, 0, 1, 1)", 1, "figures=2", "kind 1=3", "size 1=88", "lean 1=20");
    }

    private static void readNothing() {
        String sentence = "of n 0: 0, no FAULT, whatever the SHEET is";
        for (String call : new String[] {"read(3, 0, 0, 0)", "read(1, 1, 0, 0)", "read(1, 0, 0, 0)", "read(2, 2, 0, 0)", "read(1, 1, 5, 0)", "read(1, 1, -1, 0)",
            "read(3, 2, MIN, 0)", "read(0, 1, MAX, 0)"}) {
            edges.at(42, sentence, Scenes.RICH).changes(call, 0, "torn=0").leaves(call, 0);
        }
        edges.at(42, sentence, "5*roll(0, 1)", "sheet(0, 0, 2)").leaves("read(0, 0, 0, 0)", 0);
    }

    private static void tornBy(String sentence, String[] before, String call, int came, int fault) {
        edges.at(42, sentence, before).is("clear(0)", 4).is(call, came).is("torn()", fault).is("rule(0)", came);
    }

    private static void readPastTheRow() {
        tornBy(MACHINE, Scenes.RICH, "read(0, 0, 0, 2)", 2, 0);
        tornBy(MACHINE, Scenes.RICH, "read(0, 0, 0, 3)", 2, INDEX);
        tornBy(MACHINE, Scenes.RICH, "read(0, 0, 0, 20)", 2, INDEX);
        tornBy(MACHINE, Scenes.RICH, "read(0, 0, 2, 1)", 1, 0);
        tornBy(MACHINE, Scenes.RICH, "read(0, 0, 2, 2)", 1, INDEX);
        tornBy(MACHINE, Scenes.RICH, "read(0, 0, 3, 1)", 0, INDEX);
        tornBy(MACHINE, Scenes.RICH, "read(0, 0, 4, 1)", 0, INDEX);
        for (String f : new String[] {"-1", "-2", "-4", "MIN", "MAX", "2147483646", "-2147483647", "40", "41"}) {
            tornBy(MACHINE, Scenes.RICH, "read(0, 0, " + f + ", 1)", 0, INDEX);
            tornBy(MACHINE, Scenes.RICH, "read(0, 0, " + f + ", 20)", 0, INDEX);
        }
        tornBy(MACHINE, Scenes.RICH, "read(1, 1, 0, 3)", 2, INDEX);
        tornBy(MACHINE, Scenes.RICH, "read(2, 2, 0, 1)", 0, INDEX);
        edges.at(42, MACHINE, "sheet(3, 1, 40)").is("read(3, 1, 36, 20)", 2).is("torn()", INDEX).is("read(3, 1, 38, 1)", 1).is("torn()", 0)
            .is("read(3, 1, 39, 1)", 0).is("torn()", INDEX).is("rule(0)", 3);
        edges.at(42, "those that were whole ahead came", Scenes.RICH).is("clear(1)", 4).is("torn()", INDEX)
            .changes("read(0, 0, 2, 2)", 1, "figures=2", "kind 1=3", "size 1=5", "lean 1=20");
        edges.at(42, "those that were whole ahead came", "sheet(0, 0, 1)", "lay(0, 0, 9)").is("read(0, 0, 0, 1)", 0).is("torn()", INDEX);
    }

    private static void readOtherLanes() {
        String faults = "1 NULL (nothing), 2 INDEX, 3 CAST (another lane), 4 SIZE (below 0)";
        for (int lane = 0; lane < 3; lane++) {
            for (int taken = 0; taken < 3; taken++) {
                edges.at(42, faults, "sheet(1, " + lane + ", 2)").is("read(1, " + taken + ", 0, 1)", taken == lane ? 1 : 0).is("torn()", taken == lane ? 0 : CAST)
                    .is("rule(0)", taken == lane ? 1 : 0);
            }
            edges.at(42, faults).is("read(1, " + lane + ", 0, 1)", 0).is("torn()", NULL).is("read(1, " + lane + ", -1, 20)", 0).is("torn()", NULL);
        }
        edges.at(42, faults, "sheet(1, 0, 0)").is("read(1, 1, 0, 1)", 0).is("torn()", CAST).is("read(1, 2, -1, 1)", 0).is("torn()", CAST)
            .is("read(1, 0, 0, 1)", 0).is("torn()", INDEX);
    }

    private static void readRefused() {
        int[][] rows = {{-1, 1}, {4, 1}, {0, 100}, {0, -1}};
        for (int[] row : rows) {
            String[] before = {"read(0, 0, 0, 1)", "sheet(2, 0, 6)", "lay(2, 0, 3)", "lay(2, 1, 99)", "lay(2, 4, 1)", "lay(2, 5, 1)", "lay(2, 2, " + row[0] + ")", "lay(2, 3, " + row[1] + ")"};
            edges.at(42, REFUSED, before).is("torn()", NULL).leaves("read(2, 0, 2, 1)", -20).leaves("read(2, 0, 2, 20)", -20).leaves("read(2, 0, 0, 2)", -21)
                .leaves("read(2, 0, 0, 3)", -21).leaves("read(2, 0, 0, 20)", -21).changes("read(2, 0, 0, 1)", 1, "torn=0", "figures=1", "kind 0=3", "size 0=99", "lean 0=20")
                .leaves("read(2, 0, 0, 2)", -21);
        }
        edges.at(42, REFUSED, "sheet(2, 0, 4)", "lay(2, 2, 4)").leaves("read(2, 0, 0, 3)", -21).is("sheet(2, 0, 3)", 1).is("lay(2, 2, 4)", 1)
            .is("read(2, 0, 0, 3)", 1).is("torn()", INDEX).is("rule(0)", 1);
    }

    private static void readWhenFull() {
        edges.at(42, REFUSED, "sheet(1, 2, 40)", "read(0, 0, 0, 1)").is("torn()", NULL).leaves("read(1, 2, 0, 6)", -25).leaves("read(1, 2, 0, 20)", -25)
            .is("read(1, 2, 0, 5)", 5).is("torn()", 0).is("rule(0)", 5);
        edges.at(42, REFUSED, "5*roll(3, 9)", "sheet(1, 2, 40)", "read(0, 0, 0, 1)").leaves("read(1, 2, 0, 1)", -20).leaves("read(1, 2, 38, 2)", -20)
            .changes("read(1, 2, 39, 1)", 0, "torn=2").changes("read(1, 1, 0, 1)", 0, "torn=3").changes("read(0, 2, 0, 1)", 0, "torn=1")
            .changes("read(1, 2, 0, 0)", 0, "torn=0");
        edges.at(42, REFUSED, "4*roll(3, 9)", "sheet(1, 2, 40)", "read(0, 0, 0, 1)").leaves("read(1, 2, 0, 2)", -21).leaves("read(1, 2, 36, 3)", -21)
            .changes("read(1, 2, 38, 2)", 1, "torn=2", "figures=5", "kind 4=0", "size 4=0", "lean 4=20");
    }

    private static void torn() {
        String sentence = "The FAULT of the latest read() that answered 0 or more; 0 (one that is refused leaves it).";
        edges.at(43, sentence).is("torn()", 0).is("read(0, 0, 0, 1)", 0).leaves("torn()", NULL)
            .leaves("read(4, 0, 0, 0)", BAD).leaves("read(0, 3, 0, 0)", BAD).leaves("read(0, 0, 0, 21)", BAD)
            .is("sheet(0, 0, 2)", 1).is("torn()", NULL).is("read(0, 1, 0, 1)", 0).leaves("torn()", CAST)
            .is("lay(0, 0, 4)", 1).leaves("read(0, 0, 0, 1)", -20).is("torn()", CAST)
            .is("lay(0, 9, 4)", -12).is("torn()", CAST).is("sheet(0, 0, -1)", -14).is("torn()", CAST)
            .is("read(0, 0, 1, 1)", 0).leaves("torn()", INDEX).is("text()", 0).is("torn()", INDEX)
            .is("lay(0, 0, 3)", 1).is("read(0, 0, 0, 1)", 1).leaves("torn()", 0)
            .is("read(0, 0, 0, 2)", 1).is("torn()", INDEX).is("read(0, 0, 0, 0)", 0).is("torn()", 0);
    }

    private static void count() {
        String sentence = "0 SEEN, 1 IMAGES, 2 bytes on THE TAPE, 3 CELLS of SHEET 0 (NONE: nothing), 4 WARMTH of all days of the week, 5 WIND of them. BAD.";
        Edge rich = edges.at(44, sentence, Scenes.RICH).bounds("count(@)", 0, 5);
        int[] want = {2, 1, 7, 4, 2 + 9 + 5, 5 + 20};
        for (int what = 0; what <= 5; what++) {
            rich.leaves("count(" + what + ")", want[what]);
        }
        edges.at(44, sentence).bounds("count(@)", 0, 5).leaves("count(0)", 0).leaves("count(1)", 0).leaves("count(2)", 0);
        edges.at(44, "0 SEEN", "6*see(1, 1)").is("count(0)", 6).is("see(1, 1)", Scenes.FULL).is("count(0)", 6).is("forget(0)", 6).is("count(0)", 0);
        edges.at(44, "1 IMAGES", "keep(1)").is("count(1)", 1).is("keep(1)", 1).is("count(1)", 1).is("keep(0)", 0).is("count(1)", 2).is("back(0)", 0).is("count(1)", 2)
            .is("text()", 0).is("count(1)", 0);
        edges.at(44, "2 bytes on THE TAPE", "160*feed(32)").leaves("count(2)", 160).is("feed(32)", Scenes.FULL).is("count(2)", 160).is("end(0)", 160).is("count(2)", 0);
        edges.at(44, "4 WARMTH of all days of the week, 5 WIND of them", "weather(9, 8)").is("count(4)", 63).is("count(5)", 56).is("weather(0, 0)", 8)
            .is("count(4)", 0).is("count(5)", 0);
    }

    private static void countOfSheet0() {
        edges.at(44, "3 CELLS of SHEET 0 (NONE: nothing)").leaves("count(3)", NONE).is("sheet(1, 0, 5)", 1).is("sheet(3, 0, 5)", 1).leaves("count(3)", NONE)
            .is("sheet(0, 2, -1)", -14).leaves("count(3)", NONE).is("sheet(0, 2, 41)", BAD).leaves("count(3)", NONE)
            .is("sheet(0, 2, 0)", 1).leaves("count(3)", 0).is("sheet(0, 0, 40)", 1).leaves("count(3)", 40).is("text()", 0).leaves("count(3)", 40);
    }
}
