import java.io.IOException;

/** The edges of promises 1 to 8: the text, what there is. */
public final class EdgesOfTextTest {
    private static final int BAD = Scenes.BAD, STATE = Scenes.STATE, FULL = Scenes.FULL, NONE = Scenes.NONE;
    private static final String[] TOLD = {"tell(iced 7 20;day 3 5 6;)", "days(2)", "see(0, 0)", "keep(0)"};
    private static Edges edges;

    public static void main(String[] args) throws IOException {
        edges = new Edges(1, 8);
        newObject();
        feed();
        end();
        textTellsAll();
        tokens();
        lines();
        faults();
        faultNumbers();
        rule();
        figure();
        melts();
        tips();
        week();
        edges.close();
    }

    private static void newObject() {
        edges.at(1, "No FIGURES")
            .is("rule(0)", 0).is("rule(2)", NONE).is("rule(3)", NONE).is("rule(4)", 0).is("rule(5)", 0)
            .leaves("figure(0, 0)", BAD).leaves("clear(1)", BAD).is("roll(0, 1)", 1);
        Edge sheets = edges.at(1, "SHEETS have nothing");
        for (int k = 0; k < 4; k++) {
            sheets.leaves("lay(" + k + ", 0, 0)", -11).is("read(" + k + ", 0, 0, 1)", 0).is("torn()", 1);
        }
        sheets.is("count(3)", NONE);
        edges.at(1, "or nothing (at first)").is("count(3)", NONE).is("torn()", 0);
        edges.at(1, "DAY (0 at first)").is("rule(1)", 0).is("days(1)", 0).is("rule(1)", 1);
        Edge week = edges.at(1, "WARMTH (0 to 9; 1 at first) and WIND (0 to 8; 4 at first: none;");
        for (int d = 0; d < 7; d++) {
            week.is("week(" + d + ", 0)", 1).is("week(" + d + ", 1)", 4);
        }
        edges.at(1, "`SnowReign()`")
            .is("fault()", 0).is("count(0)", 0).is("count(1)", 0).is("count(2)", 0)
            .leaves("back(0)", STATE).leaves("back(1)", STATE).leaves("end(1)", BAD).leaves("forget(1)", BAD);
    }

    private static void feed() {
        edges.at(2, "A byte (0 to 127)").bounds("feed(@)", 0, 127)
            .changes("feed(0)", 1, "tape bytes=1", "tape").changes("feed(127)", 2, "tape bytes=2");
        edges.at(2, "comes behind THE TAPE: how many it has", "feeds(wet 7 1)").is("feed(50)", 8).is("feed(59)", 9).is("text()", 1).is("figure(0, 2)", 12);
        edges.at(2, "FULL: more than 160", "159*feed(32)").is("feed(32)", 160)
            .leaves("feed(32)", FULL).leaves("feed(0)", FULL).leaves("feed(127)", FULL).is("end(160)", 160);
        edges.at(2, "the first that fits", "160*feed(32)").leaves("feed(128)", BAD).leaves("feed(-1)", BAD);
        edges.at(2, "THE TAPE has 160 bytes, places from 0", "152*feed(32)", "feeds(wet 5 6;)", "feed(33)").is("text()", 1).is("figure(0, 2)", 6);
        edges.at(2, "what is refused changes nothing", "153*feed(32)", "feeds(wet 5 6)").is("feed(59)", FULL).is("text()", -170).is("fault()", 2);
        edges.at(2, "FULL: more than 160", "160*feed(32)", "end(159)").is("feed(33)", 160).is("text()", -169).is("feed(32)", 1);
    }

    private static void end() {
        edges.at(3, "keeps its first n bytes: how many it had", "feeds(wet 5 67)").is("end(7)", 8).is("end(7)", 7).is("feed(59)", 8)
            .is("text()", 1).is("figure(0, 2)", 6);
        edges.at(3, "BAD (n above that, too)", "feeds(wet 5 6)").bounds("end(@)", 0, 7).leaves("end(7)", 7)
            .changes("end(0)", 7, "tape bytes=0", "tape");
        edges.at(3, "BAD (n above that, too)").bounds("end(@)", 0, 0).leaves("end(0)", 0);
        edges.at(3, "BAD (n above that, too)", "160*feed(32)").bounds("end(@)", 0, 160).leaves("end(160)", 160);
        edges.at(3, "BAD (n above that, too)", Scenes.RICH).bounds("end(@)", 0, 7).changes("end(6)", 7, "tape bytes=6", "tape");
    }

    private static void textTellsAll() {
        edges.at(4, "THE TAPE (empty then, by a FAULT, too)", "feeds(wet 5 6;)").is("text()", 1).is("count(2)", 0)
            .is("tell(wet)", -13).is("count(2)", 0).is("end(0)", 0).is("text()", 0);
        edges.at(4, "in place of what there was (what no line tells is as at first)", Scenes.RICH)
            .is("feed(59)", 8).is("text()", 1).is("rule(0)", 1).is("figure(0, 0)", 2).is("figure(0, 1)", 7).is("figure(0, 2)", 9)
            .is("rule(1)", 0).is("count(4)", 7).is("count(5)", 28).is("fault()", 0);
        edges.at(4, "nothing is SEEN; IMAGES are gone; SHEETS stay", Scenes.RICH).is("feed(59)", 8)
            .changes("text()", 1, "tape bytes=0", "tape", "fault=0", "seen number=0", "seen", "images=0", "image 1=none", "day=0",
                "warmth 0=1", "wind 0=4", "warmth 6=1", "wind 6=4", "figures=1", "kind 0=2", "size 0=7", "lean 0=9",
                "kind 1", "size 1", "lean 1", "kind 2", "size 2", "lean 2", "kind 3", "size 3", "lean 3")
            .is("back(1)", STATE).is("count(3)", 4).is("torn()", 2);
        edges.at(4, "text: { line }", Scenes.RICH).is("end(0)", 7).is("text()", 0)
            .is("rule(0)", 0).is("rule(1)", 0).is("count(0)", 0).is("count(1)", 0).is("count(4)", 7).is("count(5)", 28);
        edges.at(4, "text: { line }", Scenes.RICH).is("end(0)", 7).is("tell(   )", 0).is("rule(0)", 0);
        edges.at(4, "how many lines", "feeds(wet1 1;wet1 1;wet1 1;wet1 1;wet1 1;)", "feeds(day0 1 1;day1 1 1;day2 1 1;day3 1 1;day4 1 1;day5 1 1;day6 1 1;)")
            .is("text()", 12).is("rule(0)", 5).is("count(5)", 7);
        edges.at(4, "-10 less the place of its FAULT: that which was told stays", TOLD)
            .is("feed(33)", 1).changes("text()", -10, "fault=1", "tape bytes=0", "tape");
        edges.at(4, "-10 less the place of its FAULT: that which was told stays", "159*feed(32)", "feed(33)")
            .changes("text()", -169, "fault=1", "tape bytes=0", "tape");
        edges.at(4, "-10 less the place of its FAULT: that which was told stays", "157*feed(32)", "feeds(wet)")
            .changes("text()", -170, "fault=2", "tape bytes=0", "tape");
    }

    private static void taken(String sentence, String text, int lines, int... last) {
        Edge edge = edges.at(4, sentence, TOLD).is("tell(" + text + ")", lines).is("fault()", 0);
        for (int what = 0; what < last.length; what++) {
            edge.is("figure(0, " + what + ")", last[what]);
        }
    }

    private static void day(String sentence, String text, int d, int warmth, int wind) {
        edges.at(4, sentence, TOLD).is("tell(" + text + ")", 1).is("fault()", 0).is("week(" + d + ", 0)", warmth).is("week(" + d + ", 1)", wind);
    }

    private static void faulty(String sentence, String text, int place, int fault) {
        edges.at(4, sentence, TOLD).changes("tell(" + text + ")", -10 - place, "fault=" + fault).is("count(2)", 0);
    }

    private static void tokens() {
        String names = "NAMES (a .. z)";
        for (char c : "`{@[AZ_".toCharArray()) {
            faulty(names, String.valueOf(c), 0, 1);
            faulty(names, "wet" + c + "5 6;", 3, 1);
        }
        faulty(names, "a", 0, 2);
        faulty(names, "z", 0, 2);
        String numbers = "NUMBERS (1 or 2 figures)";
        for (char c : "/:-+.".toCharArray()) {
            faulty(numbers, String.valueOf(c), 0, 1);
            faulty(numbers, "wet 5" + c + "6;", 5, 1);
        }
        taken(numbers, "wet 0 9;", 1, 2, 0, 9);
        taken(numbers, "wet 9 0;", 1, 2, 9, 0);
        taken(numbers, "wet 05 06;", 1, 2, 5, 6);
        taken(numbers, "wet 00 00;", 1, 2, 0, 0);
        String tooLong = "a NUMBER that is too long (its first byte)";
        faulty(tooLong, "wet 005 6;", 4, 1);
        faulty(tooLong, "wet 5 006;", 6, 1);
        faulty(tooLong, "wet 100 6;", 4, 1);
        faulty(tooLong, "day 001 1 1;", 4, 1);
        faulty(tooLong, "wet 5 6 000;", 8, 1);
        faulty(tooLong, "000", 0, 1);
        faulty(tooLong, "wet 12345678901234567890", 4, 1);
        String sign = "the sign ; (every other byte is no TOKEN)";
        faulty(sign, "wet 5 6<", 7, 1);
        faulty(sign, "wet 5 6:", 7, 1);
        faulty(sign, "wet 5 6,", 7, 1);
        String blanks = "any number of blanks (32) ahead of, between, behind them";
        for (char c : new char[] {0, 9, 10, 13, 31, 33, 127}) {
            faulty(blanks, "wet" + c + "5 6;", 3, 1);
            faulty(blanks, String.valueOf(c), 0, 1);
            faulty(blanks, "wet 5 6;" + c, 8, 1);
        }
        taken(blanks, "    wet    5    6    ;    ", 1, 2, 5, 6);
        taken(blanks, "wet 5 6 ;", 1, 2, 5, 6);
        String between = "(one at least between two NAMES, between two NUMBERS; else none is needed)";
        taken(between, "wet5 6;iced7 8;", 2, 2, 5, 6);
        taken(between, "day0 1 1;wet5 6;", 2, 2, 5, 6);
        faulty(between, "weticed 5 6;", 0, 2);
        faulty(between, "wet iced 5 6;", 4, 2);
        faulty(between, "wet 56;", 6, 2);
        faulty(between, "wet 516;", 4, 1);
        String longest = "TOKENS, each as long as may be";
        faulty(longest, "wets 5 6;", 0, 2);
        faulty(longest, "we 5 6;", 0, 2);
        faulty(longest, "da 1 1 1;", 0, 2);
        faulty(longest, "days 1 1 1;", 0, 2);
        faulty(longest, "powde 5 6;", 0, 2);
        faulty(longest, "powders 5 6;", 0, 2);
        faulty(longest, "ice 5 6;", 0, 2);
        faulty(longest, "pack 5 6;", 0, 2);
        for (String name : new String[] {"powder", "packed", "wet", "iced", "day"}) {
            for (int k = 0; k < name.length(); k++) {
                faulty("2 a TOKEN that can not stand there (a NAME that begins no line", name.substring(0, k) + "x" + name.substring(k + 1) + " 1 1 1;", 0, 2);
            }
        }
    }

    private static void lines() {
        String kinds = "K: powder | packed | wet | iced";
        taken(kinds, "powder 1 2;", 1, 0, 1, 2);
        taken(kinds, "packed 1 2;", 1, 1, 1, 2);
        taken(kinds, "wet 1 2;", 1, 2, 1, 2);
        taken(kinds, "iced 1 2;", 1, 3, 1, 2);
        String figures = "K: a FIGURE more of that KIND: SIZE, LEAN (0 to 40)";
        taken(figures, "wet 0 0;", 1, 2, 0, 0);
        taken(figures, "wet 99 40;", 1, 2, 99, 40);
        faulty(figures, "wet 99 41;", 7, 3);
        faulty(figures, "wet 0 99;", 6, 3);
        String days = "day: of the week (0 to 6), WARMTH, WIND";
        day(days, "day 0 0 0;", 0, 0, 0);
        day(days, "day 6 9 8;", 6, 9, 8);
        day(days, "day 06 09 08;", 6, 9, 8);
        faulty(days, "day 7 1 1;", 4, 3);
        faulty(days, "day 99 1 1;", 4, 3);
        faulty(days, "day 6 10 1;", 6, 3);
        faulty(days, "day 6 9 9;", 8, 3);
        faulty(days, "day 0 99 1;", 6, 3);
        faulty(days, "day 0 1 99;", 8, 3);
    }

    private static void faults() {
        String first = "the first met as it is read (a TOKEN is read when the one before has been taken)";
        faulty(first, "wet 5 41 !", 6, 3);
        faulty(first, "wet 5 ! 41", 6, 1);
        faulty(first, "day 7!", 4, 3);
        faulty(first, "wet 5 6;hat !", 8, 2);
        faulty(first, "wet 5 6 7777", 8, 1);
        String stand = "2 a TOKEN that can not stand there (a NAME that begins no line; or the end: the length)";
        faulty(stand, "hat 5 6;", 0, 2);
        faulty(stand, ";", 0, 2);
        faulty(stand, "5", 0, 2);
        faulty(stand, " 5", 1, 2);
        faulty(stand, "wet 5 6;;", 8, 2);
        faulty(stand, "wet wet 5 6;", 4, 2);
        faulty(stand, "wet ;", 4, 2);
        faulty(stand, "wet 5;", 5, 2);
        faulty(stand, "wet 5 wet;", 6, 2);
        faulty(stand, "wet 5 6 7;", 8, 2);
        faulty(stand, "wet 5 6 wet", 8, 2);
        faulty(stand, "day day 1 1;", 4, 2);
        faulty(stand, "day;", 3, 2);
        faulty(stand, "day 1;", 5, 2);
        faulty(stand, "day 1 1;", 7, 2);
        faulty(stand, "day 1 1 1 1;", 10, 2);
        String unfinished = "wet 5 6;day 1 1 1";
        for (int length : new int[] {3, 4, 5, 6, 7, 11, 12, 13, 14, 15, 16, 17}) {
            faulty(stand, unfinished.substring(0, length), length, 2);
        }
        faulty(stand, "wet 5 6   ", 10, 2);
        String twice = "4 a day of the week that is told already (it)";
        faulty(twice, "day 3 1 4;day 3 1 4;", 14, 4);
        faulty(twice, "day 0 1 4;day 00 1 4;", 14, 4);
        faulty(twice, "day 6 1 4;day 5 1 4;day 6 1 4;", 24, 4);
        faulty(twice, "day 3 1 4;day 3 !", 14, 4);
        faulty(twice, "day 3 1 4;day 3", 14, 4);
        String week = "day0 1 4;day1 1 4;day2 1 4;day3 1 4;day4 1 4;day5 1 4;day6 0 0;";
        taken(twice, week, 7);
        faulty(twice, week + "day6 0 0;", 66, 4);
        faulty(twice, week + "day7 0 0;", 66, 3);
        String sixth = "5 the 6th FIGURE (its NAME)";
        String five = "iced0 1;iced0 1;iced0 1;iced0 1;iced0 1;";
        taken(sixth, five, 5, 3, 0, 1);
        taken(sixth, five + "day 1 1 1;", 6);
        for (String kind : new String[] {"powder", "packed", "wet", "iced"}) {
            faulty(sixth, five + kind + " 5 6;", 40, 5);
            faulty(sixth, five + " " + kind, 41, 5);
        }
        faulty(sixth, five + "wet 777", 40, 5);
        faulty(sixth, five + "hat 5 6;", 40, 2);
        faulty(sixth, five + "day 1 1 1;wet", 50, 5);
    }

    private static void faultNumbers() {
        edges.at(5, "The FAULT of the latest text(); 0.").is("fault()", 0)
            .is("tell(!)", -10).leaves("fault()", 1).is("tell(hat)", -10).leaves("fault()", 2)
            .is("tell(day 7)", -14).leaves("fault()", 3).is("tell(day0 1 4;day0)", -22).leaves("fault()", 4)
            .is("tell(wet1 1;wet1 1;wet1 1;wet1 1;wet1 1;wet)", -45).leaves("fault()", 5)
            .is("feed(33)", 1).is("fault()", 5).is("end(0)", 1).is("fault()", 5)
            .is("text()", 0).leaves("fault()", 0);
    }

    private static void rule() {
        Edge rich = edges.at(6, "0 FIGURES, 1 DAY, 2 which REIGNS (NONE), 3 DECREE (NONE: nobody REIGNS), 4 which STAND (bits), 5 SIZE of all. BAD.", Scenes.RICH)
            .bounds("rule(@)", 0, 5);
        int[] want = {4, 3, 0, 3, 13, 26 + 1 + 40};
        for (int what = 0; what <= 5; what++) {
            rich.leaves("rule(" + what + ")", want[what]);
        }
        edges.at(6, "0 FIGURES").bounds("rule(@)", 0, 5).is("rule(0)", 0).is("5*roll(0, 0)", 5).is("rule(0)", 5);
        edges.at(6, "1 DAY", Scenes.atTheLastDay()).leaves("rule(1)", 999);
        edges.at(6, "A FIGURE STANDS, if its SIZE is above 0", "roll(0, 0)", "roll(0, 1)").is("rule(4)", 2).is("rule(2)", 1);
        edges.at(6, "2 which REIGNS (NONE)").leaves("rule(2)", NONE).is("4*roll(0, 0)", 4).leaves("rule(2)", NONE)
            .is("roll(0, 1)", 5).leaves("rule(2)", 4).is("alter(0, 1, 1)", 0).leaves("rule(2)", 0);
        edges.at(6, "REIGNS: the first FIGURE that STANDS", "roll(0, 1)", "roll(0, 99)").is("rule(2)", 0).is("alter(0, 1, 0)", 1).is("rule(2)", 1);
        int[][] decrees = {{0, 0}, {1, 1}, {3, 3}, {4, 0}, {19, 3}, {20, 0}, {21, 1}, {38, 2}, {39, 3}, {40, 0}};
        for (int[] row : decrees) {
            edges.at(6, "DECREE: what LEAN (as told) of the one that REIGNS leaves by 4", "tell(wet 0 2;powder 9 " + row[0] + ";wet 9 2;)").is("rule(3)", row[1]);
        }
        edges.at(6, "3 DECREE (NONE: nobody REIGNS)").leaves("rule(3)", NONE).is("roll(0, 0)", 1).leaves("rule(3)", NONE)
            .is("roll(0, 1)", 2).leaves("rule(3)", 0);
        edges.at(6, "4 which STAND (bits)").leaves("rule(4)", 0).is("5*roll(0, 99)", 5).leaves("rule(4)", 31)
            .is("alter(0, 1, 0)", 99).leaves("rule(4)", 30).is("alter(4, 1, 0)", 99).leaves("rule(4)", 14);
        edges.at(6, "5 SIZE of all").leaves("rule(5)", 0).is("5*roll(0, 99)", 5).leaves("rule(5)", 495);
    }

    private static void figure() {
        String bad = "as if there were no bounds). BAD.";
        edges.at(7, bad, Scenes.RICH).bounds("figure(@, 0)", 0, 3).bounds("figure(0, @)", 0, 4);
        edges.at(7, bad).leaves("figure(0, 0)", BAD).leaves("figure(0, 3)", BAD).leaves("figure(-1, 4)", BAD)
            .is("5*roll(1, 5)", 5).bounds("figure(@, 4)", 0, 4);
        edges.at(7, "0 KIND, 1 SIZE, 2 LEAN", "tell(powder 0 0;iced 99 40;)")
            .leaves("figure(0, 0)", 0).leaves("figure(0, 1)", 0).leaves("figure(0, 2)", 0)
            .leaves("figure(1, 0)", 3).leaves("figure(1, 1)", 99).leaves("figure(1, 2)", 40);
        edges.at(7, "it is that day of the week which DAY leaves by 7", "tell(powder 99 20;day 6 7 8;day 0 5 0;day 1 3 4;)")
            .is("figure(0, 3)", 5).is("figure(0, 4)", 16).is("days(6)", 1)
            .is("figure(0, 3)", 7).is("figure(0, 4)", 24).is("days(1)", 1)
            .is("figure(0, 3)", 5).is("figure(0, 4)", 16).is("days(1)", 1)
            .is("figure(0, 3)", 3).is("figure(0, 4)", 20);
        edges.at(7, "it is that day of the week which DAY leaves by 7", Scenes.atTheLastDay("roll(0, 99)", "set(5, 0, 8)"))
            .is("figure(0, 3)", 8);
    }

    private static void melts() {
        String by = "powder WARMTH; packed half of that (down); wet twice that of a powder one; iced 1 less than a packed one (0 at least)";
        int[][] want = {{0, 0, 0, 0, 0}, {1, 1, 0, 2, 0}, {2, 2, 1, 4, 0}, {3, 3, 1, 6, 0}, {4, 4, 2, 8, 1}, {5, 5, 2, 10, 1}, {8, 8, 4, 16, 3}, {9, 9, 4, 18, 3}};
        for (int[] row : want) {
            Edge edge = edges.at(7, by, "tell(powder 99 20;packed 99 20;wet 99 20;iced 99 20;)", "weather(" + row[0] + ", 4)");
            for (int kind = 0; kind < 4; kind++) {
                edge.is("figure(" + kind + ", 3)", row[kind + 1]);
            }
        }
        String most = "all it has at most";
        int[] inWarmth = {9, 4, 18, 3};
        for (int kind = 0; kind < 4; kind++) {
            int whole = inWarmth[kind];
            edges.at(7, most, "weather(9, 4)", "roll(" + kind + ", " + (whole + 1) + ")", "roll(" + kind + ", " + whole + ")",
                    "roll(" + kind + ", " + (whole - 1) + ")", "roll(" + kind + ", 1)", "roll(" + kind + ", 0)")
                .is("figure(0, 3)", whole).is("figure(1, 3)", whole).is("figure(2, 3)", whole - 1).is("figure(3, 3)", 1).is("figure(4, 3)", 0);
        }
    }

    private static void tips() {
        String by = "powder by WIND less 4; packed by half of that (its amount down); wet as a powder one; iced twice that of a packed one";
        int[][] want = {{0, 16, 18, 16, 16}, {1, 17, 19, 17, 18}, {2, 18, 19, 18, 18}, {3, 19, 20, 19, 20}, {4, 20, 20, 20, 20},
            {5, 21, 20, 21, 20}, {6, 22, 21, 22, 22}, {7, 23, 21, 23, 22}, {8, 24, 22, 24, 24}};
        for (int[] row : want) {
            Edge edge = edges.at(7, by, "tell(powder 99 20;packed 99 20;wet 99 20;iced 99 20;)", "weather(1, " + row[0] + ")");
            for (int kind = 0; kind < 4; kind++) {
                edge.is("figure(" + kind + ", 4)", row[kind + 1]);
            }
        }
        edges.at(7, "as if there were no bounds", "tell(powder 99 40;wet 99 39;iced 99 40;packed 99 40;)", "weather(0, 8)")
            .is("figure(0, 4)", 24).is("figure(1, 4)", 24).is("figure(2, 4)", 24).is("figure(3, 4)", 22);
        edges.at(7, "as if there were no bounds", "tell(powder 99 0;wet 99 1;iced 99 0;packed 99 0;)", "weather(0, 0)")
            .is("figure(0, 4)", 16).is("figure(1, 4)", 16).is("figure(2, 4)", 16).is("figure(3, 4)", 18);
    }

    private static void week() {
        edges.at(8, "Of a day of the week: 0 WARMTH, 1 WIND. BAD.", Scenes.RICH).bounds("week(@, 0)", 0, 6).bounds("week(@, 1)", 0, 6)
            .bounds("week(0, @)", 0, 1).leaves("week(0, 0)", 2).leaves("week(0, 1)", 5).leaves("week(6, 0)", 9).leaves("week(6, 1)", 0)
            .leaves("week(3, 0)", 1).leaves("week(3, 1)", 4);
        edges.at(8, "for each day of a week (0 to 6)").bounds("week(@, 0)", 0, 6).bounds("week(6, @)", 0, 1)
            .is("set(6, 0, 9)", 1).is("set(6, 1, 8)", 4).is("week(6, 0)", 9).is("week(6, 1)", 8).is("week(5, 0)", 1).is("week(0, 1)", 4);
    }
}
