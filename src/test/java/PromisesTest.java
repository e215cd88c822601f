/** Each promise by itself: ordinary inputs, edges, wrong inputs; every due answer was worked out by hand. */
public final class PromisesTest {
    private static final int BAD = -1, STATE = -2, FULL = -3, NONE = -4;
    private static final Due due = new Due();

    private static SnowReign told(String text) {
        SnowReign x = new SnowReign();
        tell(x, text);
        due.is("fault() of " + text, x.fault(), 0);
        return x;
    }

    private static int tell(SnowReign x, String text) {
        for (char c : text.toCharArray()) {
            x.feed(c);
        }
        return x.text();
    }

    private static void weather(SnowReign x, int warmth, int wind) {
        for (int d = 0; d < 7; d++) {
            x.set(d, 0, warmth);
            x.set(d, 1, wind);
        }
    }

    private static void faulty(String text, int place, int fault) {
        SnowReign x = told("iced 7 20; day 3 5 6;");
        due.is("text() of '" + text + "'", tell(x, text), -10 - place);
        due.is("fault() of '" + text + "'", x.fault(), fault);
        due.is("count(2) behind '" + text + "'", x.count(2), 0);
        due.is("rule(0) behind '" + text + "'", x.rule(0), 1);
        due.is("figure(0, 0) behind '" + text + "'", x.figure(0, 0), 3);
        due.is("week(3, 1) behind '" + text + "'", x.week(3, 1), 6);
    }

    public static void main(String[] args) {
        newObject();
        tape();
        textTaken();
        textFaults();
        whatThereIs();
        whatIsChanged();
        daysPass();
        daysAhead();
        reigns();
        whatIsBest();
        longest();
        salt();
        seen();
        ask();
        drift();
        images();
        sheets();
        reads();
        counts();
        due.close();
    }

    private static void newObject() {
        SnowReign x = new SnowReign();
        due.is("1: rule(0)", x.rule(0), 0);
        due.is("1: rule(1)", x.rule(1), 0);
        due.is("1: fault()", x.fault(), 0);
        due.is("1: torn()", x.torn(), 0);
        for (int d = 0; d < 7; d++) {
            due.is("1: week(d, 0)", x.week(d, 0), 1);
            due.is("1: week(d, 1)", x.week(d, 1), 4);
        }
        for (int k = 0; k < 4; k++) {
            due.is("1: lay(k, 0, 0)", x.lay(k, 0, 0), -11);
        }
        due.is("1: back(0)", x.back(0), STATE);
        due.is("1: back(1)", x.back(1), STATE);
        for (int what = 0; what < 3; what++) {
            due.is("1: count(what)", x.count(what), 0);
        }
        due.is("1: count(3)", x.count(3), NONE);
        due.is("1: count(4)", x.count(4), 7);
        due.is("1: count(5)", x.count(5), 28);
    }

    private static void tape() {
        SnowReign x = new SnowReign();
        due.is("2: feed(-1)", x.feed(-1), BAD);
        due.is("2: feed(128)", x.feed(128), BAD);
        due.is("2: feed(0)", x.feed(0), 1);
        due.is("2: feed(127)", x.feed(127), 2);
        due.is("3: end(3)", x.end(3), BAD);
        due.is("3: end(-1)", x.end(-1), BAD);
        due.is("3: end(2)", x.end(2), 2);
        due.is("3: end(0)", x.end(0), 2);
        due.is("3: end(0) again", x.end(0), 0);
        due.is("3: end(1)", x.end(1), BAD);
        for (int n = 1; n <= 160; n++) {
            due.is("2: feed(32)", x.feed(32), n);
        }
        due.is("2: feed(32) of 161", x.feed(32), FULL);
        due.is("2: feed(128) of 161", x.feed(128), BAD);
        due.is("2: count(2)", x.count(2), 160);
        due.is("3: end(159)", x.end(159), 160);
        due.is("2: feed(33)", x.feed(33), 160);
        due.is("4: text()", x.text(), -169);
        due.is("2: feed(32) anew", x.feed(32), 1);
        x.end(0);
        for (char c : "wet 1 1;!!".toCharArray()) {
            x.feed(c);
        }
        due.is("3: end(8)", x.end(8), 10);
        due.is("4: text() of its first 8", x.text(), 1);
    }

    private static void textTaken() {
        SnowReign x = told("powder5 20;packed 07 0;wet 0 40;iced 99 1;powder 1 2;day 0 9 8;day 6 0 0;");
        int[] rows = {0, 5, 20, 1, 7, 0, 2, 0, 40, 3, 99, 1, 0, 1, 2};
        for (int k = 0; k < rows.length; k++) {
            due.is("4: figure(i, what)", x.figure(k / 3, k % 3), rows[k]);
        }
        due.is("4: week(0, 0)", x.week(0, 0), 9);
        due.is("4: week(0, 1)", x.week(0, 1), 8);
        due.is("4: week(6, 0)", x.week(6, 0), 0);
        due.is("4: week(6, 1)", x.week(6, 1), 0);
        due.is("4: week(3, 0)", x.week(3, 0), 1);
        x.days(3);
        x.see(1, 1);
        x.keep(0);
        x.keep(1);
        x.sheet(0, 2, 5);
        due.is("4: text() of blanks", tell(x, "   "), 0);
        due.is("4: rule(0) then", x.rule(0), 0);
        due.is("4: rule(1) then", x.rule(1), 0);
        due.is("4: count(0) then", x.count(0), 0);
        due.is("4: count(1) then", x.count(1), 0);
        due.is("4: back(1) then", x.back(1), STATE);
        due.is("4: count(3) then", x.count(3), 5);
        due.is("4: count(4) then", x.count(4), 7);
        due.is("4: text() of nothing", x.text(), 0);
        due.is("4: text() with blanks", tell(x, "  day 5  3   2 ;  wet 3 4  ; "), 2);
        due.is("4: without blanks", tell(x, "day5 3 2;wet3 4;day6 1 1;"), 3);
        SnowReign y = told("wet 3 20;");
        y.days(4);
        y.see(2, 2);
        y.keep(0);
        due.is("4: refused", tell(y, "wet"), -13);
        due.is("4: DAY stays", y.rule(1), 4);
        due.is("4: SEEN stay", y.count(0), 1);
        due.is("4: IMAGES stay", y.count(1), 1);
        due.is("5: fault()", y.fault(), 2);
        due.is("5: fault() again", y.fault(), 2);
        y.text();
        due.is("5: fault() of the latest", y.fault(), 0);
    }

    private static void textFaults() {
        faulty("hat 1 1;", 0, 2);
        faulty("wetwet 1 1;", 0, 2);
        faulty("we 1 1;", 0, 2);
        faulty("days 1 1 1;", 0, 2);
        faulty("Wet 1 1;", 0, 1);
        faulty("set 1 1;", 0, 2);
        faulty("z", 0, 2);
        faulty("a", 0, 2);
        faulty("{", 0, 1);
        faulty("`", 0, 1);
        faulty("wet 1/", 5, 1);
        faulty("wet 1:", 5, 1);
        faulty("wet 9 0:", 7, 1);
        faulty(";", 0, 2);
        faulty(" 7", 1, 2);
        faulty("777", 0, 1);
        faulty("wet 100 1;", 4, 1);
        faulty("wet 001 1;", 4, 1);
        faulty("wet 1 000;", 6, 1);
        faulty("wet 1 41;", 6, 3);
        faulty("wet 1 1 777;", 8, 1);
        faulty("wet 1 1 7;", 8, 2);
        faulty("wet 1 1 wet", 8, 2);
        faulty("wet 1;", 5, 2);
        faulty("wet wet", 4, 2);
        faulty("wet 1 -1;", 6, 1);
        faulty("wet\t1 1;", 3, 1);
        faulty("wet 1 1", 7, 2);
        faulty("wet 1 1  ", 9, 2);
        faulty("wet", 3, 2);
        faulty("wet 1 1;day", 11, 2);
        faulty("day 7 1 1;", 4, 3);
        faulty("day 7!", 4, 3);
        faulty("day 1 10 1;", 6, 3);
        faulty("day 1 1 9;", 8, 3);
        faulty("day 1 1 1;day 2 1 1;day 1 1 1;", 24, 4);
        faulty("day 1 1 1;day 1", 14, 4);
        faulty("iced1 1;iced1 1;iced1 1;iced1 1;iced1 1; wet", 41, 5);
        faulty("iced1 1;iced1 1;iced1 1;iced1 1;iced1 1; hat", 41, 2);
        faulty("iced1 1;iced1 1;iced1 1;iced1 1;iced1 1; wet 777", 41, 5);
    }

    private static void whatThereIs() {
        SnowReign x = told("wet 0 21; powder 3 23; iced 9 40;");
        int[] rules = {3, 0, 1, 3, 6, 12};
        for (int what = 0; what < rules.length; what++) {
            due.is("6: rule(" + what + ")", x.rule(what), rules[what]);
        }
        due.is("6: rule(6)", x.rule(6), BAD);
        due.is("6: rule(-1)", x.rule(-1), BAD);
        x.alter(1, 1, 0);
        due.is("6: rule(3) of a lean of 40", x.rule(3), 0);
        x.alter(2, 1, 0);
        due.is("6: rule(2) of nobody", x.rule(2), NONE);
        due.is("6: rule(3) of nobody", x.rule(3), NONE);
        due.is("6: rule(4) of nobody", x.rule(4), 0);

        SnowReign y = told("powder 50 40; packed 50 0; wet 50 20; iced 50 20;");
        int[] melts = {0, 0, 0, 0, 1, 0, 2, 0, 2, 1, 4, 0, 3, 1, 6, 0, 4, 2, 8, 1, 5, 2, 10, 1, 6, 3, 12, 2, 7, 3, 14, 2, 8, 4, 16, 3, 9, 4, 18, 3};
        int[] tips = {16, 18, 16, 16, 17, 19, 17, 18, 18, 19, 18, 18, 19, 20, 19, 20, 20, 20, 20, 20, 21, 20, 21, 20, 22, 21, 22, 22, 23, 21, 23, 22, 24, 22, 24, 24};
        for (int k = 0; k < melts.length; k++) {
            y.set(0, 0, k / 4);
            due.is("7: figure(" + k % 4 + ", 3) by " + k / 4, y.figure(k % 4, 3), melts[k]);
        }
        for (int k = 0; k < tips.length; k++) {
            y.set(0, 1, k / 4);
            due.is("7: figure(" + k % 4 + ", 4) by " + k / 4, y.figure(k % 4, 4), tips[k]);
        }
        y.alter(0, 1, 3);
        due.is("7: figure(0, 3) of all it has", y.figure(0, 3), 3);
        due.is("7: figure(4, 0)", y.figure(4, 0), BAD);
        due.is("7: figure(-1, 0)", y.figure(-1, 0), BAD);
        due.is("7: figure(0, 5)", y.figure(0, 5), BAD);
        due.is("7: figure(0, -1)", y.figure(0, -1), BAD);
        y.days(1);
        due.is("7: figure(2, 3) on the next day", y.figure(2, 3), 2);
        due.is("7: figure(2, 4) on the next day", y.figure(2, 4), 20);

        due.is("8: week(0, 0)", y.week(0, 0), 9);
        due.is("8: week(0, 1)", y.week(0, 1), 8);
        due.is("8: week(6, 1)", y.week(6, 1), 4);
        due.is("8: week(7, 1)", y.week(7, 1), BAD);
        due.is("8: week(-1, 1)", y.week(-1, 1), BAD);
        due.is("8: week(0, 2)", y.week(0, 2), BAD);
        due.is("8: week(0, -1)", y.week(0, -1), BAD);
    }

    private static void whatIsChanged() {
        SnowReign x = told("wet 5 21;");
        int[] was = {2, 5, 21};
        int[] most = {3, 99, 40};
        for (int what = 0; what < 3; what++) {
            due.is("9: alter(0, what, most + 1)", x.alter(0, what, most[what] + 1), BAD);
            due.is("9: alter(0, what, -1)", x.alter(0, what, -1), BAD);
            due.is("9: alter(0, what, most)", x.alter(0, what, most[what]), was[what]);
            due.is("9: alter(0, what, 0)", x.alter(0, what, 0), most[what]);
            due.is("9: figure(0, what)", x.figure(0, what), 0);
        }
        due.is("9: alter(0, 3, 0)", x.alter(0, 3, 0), BAD);
        due.is("9: alter(0, -1, 0)", x.alter(0, -1, 0), BAD);
        due.is("9: alter(1, 0, 0)", x.alter(1, 0, 0), BAD);
        due.is("9: alter(-1, 0, 0)", x.alter(-1, 0, 0), BAD);

        due.is("10: set(6, 0, 9)", x.set(6, 0, 9), 1);
        due.is("10: set(6, 0, 0)", x.set(6, 0, 0), 9);
        due.is("10: set(6, 0, 10)", x.set(6, 0, 10), BAD);
        due.is("10: set(6, 1, 8)", x.set(6, 1, 8), 4);
        due.is("10: set(6, 1, 9)", x.set(6, 1, 9), BAD);
        due.is("10: set(6, 1, -1)", x.set(6, 1, -1), BAD);
        due.is("10: set(7, 1, 1)", x.set(7, 1, 1), BAD);
        due.is("10: set(-1, 1, 1)", x.set(-1, 1, 1), BAD);
        due.is("10: set(6, 2, 1)", x.set(6, 2, 1), BAD);
        due.is("10: set(6, -1, 1)", x.set(6, -1, 1), BAD);
        due.is("10: week(6, 0)", x.week(6, 0), 0);
        due.is("10: week(6, 1)", x.week(6, 1), 8);

        due.is("11: roll(3, 99)", x.roll(3, 99), 2);
        due.is("11: figure(1, 0)", x.figure(1, 0), 3);
        due.is("11: figure(1, 1)", x.figure(1, 1), 99);
        due.is("11: figure(1, 2)", x.figure(1, 2), 20);
        due.is("11: roll(0, 0)", x.roll(0, 0), 3);
        due.is("11: roll(4, 1)", x.roll(4, 1), BAD);
        due.is("11: roll(-1, 1)", x.roll(-1, 1), BAD);
        due.is("11: roll(1, 100)", x.roll(1, 100), BAD);
        due.is("11: roll(1, -1)", x.roll(1, -1), BAD);
        due.is("11: roll(1, 9)", x.roll(1, 9), 4);
        due.is("11: roll(1, 1)", x.roll(1, 1), 5);
        due.is("11: roll(1, 1) of a 6th", x.roll(1, 1), FULL);
        due.is("11: roll(1, 100) of a 6th", x.roll(1, 100), BAD);

        due.is("12: ice(3)", x.ice(3), 1);
        due.is("12: figure(3, 0)", x.figure(3, 0), 3);
        due.is("12: ice(3) again", x.ice(3), 3);
        due.is("12: ice(2)", x.ice(2), STATE);
        due.is("12: figure(2, 0)", x.figure(2, 0), 0);
        due.is("12: ice(5)", x.ice(5), BAD);
        due.is("12: ice(-1)", x.ice(-1), BAD);

        due.is("13: salt(3)", x.salt(3), 4);
        due.is("13: figure(3, 1)", x.figure(3, 1), 4);
        due.is("13: salt(4)", x.salt(4), 0);
        due.is("13: salt(4) again", x.salt(4), STATE);
        due.is("13: salt(5)", x.salt(5), BAD);
        due.is("13: salt(-1)", x.salt(-1), BAD);

        due.is("14: clear(6)", x.clear(6), BAD);
        due.is("14: clear(-1)", x.clear(-1), BAD);
        due.is("14: clear(2)", x.clear(2), 5);
        due.is("14: rule(5)", x.rule(5), 99);
        due.is("14: clear(3)", x.clear(3), BAD);
        due.is("14: clear(2) again", x.clear(2), 2);
        due.is("14: clear(0)", x.clear(0), 2);
        due.is("14: figure(0, 0)", x.figure(0, 0), BAD);
    }

    private static void daysPass() {
        SnowReign x = told("powder 9 20; packed 9 20; wet 9 20; iced 9 20; wet 50 40; day 0 7 7; day 1 0 1;");
        due.is("15: days(31)", x.days(31), BAD);
        due.is("15: days(-1)", x.days(-1), BAD);
        due.is("15: days(0)", x.days(0), 5);
        due.is("15: days(1)", x.days(1), 3);
        int[] sizes = {0, 6, 0, 7, 36};
        int[] leans = {23, 21, 23, 22, 40};
        for (int i = 0; i < 5; i++) {
            due.is("15: figure(" + i + ", 1)", x.figure(i, 1), sizes[i]);
            due.is("15: figure(" + i + ", 2)", x.figure(i, 2), leans[i]);
        }
        due.is("15: rule(1)", x.rule(1), 1);
        due.is("15: days(1) more", x.days(1), 3);
        int[] then = {23, 20, 23, 20, 37};
        for (int i = 0; i < 5; i++) {
            due.is("15: figure(" + i + ", 2) then", x.figure(i, 2), then[i]);
        }
        SnowReign left = told("wet 6 20; wet 6 20; day 0 1 0; day 1 0 8;");
        left.alter(1, 1, 5);
        due.is("15: it may lean as much as it has", left.days(1), 1);
        due.is("15: figure(0, 1)", left.figure(0, 1), 4);
        due.is("15: figure(0, 2)", left.figure(0, 2), 16);
        due.is("15: figure(1, 1)", left.figure(1, 1), 0);
        SnowReign edge = told("wet 60 1; day 0 0 0;");
        edge.days(1);
        due.is("15: 20 to the left at most", edge.figure(0, 2), 0);
        for (int k = 0; k < 33; k++) {
            x.days(30);
        }
        due.is("15: rule(1) then", x.rule(1), 992);
        due.is("15: days(8)", x.days(8), FULL);
        due.is("15: days(31) then", x.days(31), BAD);
        due.is("15: rule(1) still", x.rule(1), 992);
        x.alter(1, 1, 99);
        due.is("15: days(7)", x.days(7), 1);
        due.is("15: rule(1) at last", x.rule(1), 999);
        due.is("15: days(0) at last", x.days(0), 1);
        due.is("15: days(1) at last", x.days(1), FULL);
        due.is("16: runs(60, 1) at last", x.runs(60, 1), 1);
    }

    private static void daysAhead() {
        SnowReign x = told("powder 3 20; wet 10 20; wet 4 20;");
        int[][] dueRuns = {
            {0, 7, 0, 0, 17, 0}, {1, 7, 0, 0, 12, 1}, {2, 3, 0, 0, 7, 1}, {3, 2, 1, 0, 4, 1},
            {4, 2, 1, 0, 2, 3}, {5, 0, NONE, 0, 0, 3}, {6, 0, NONE, 1, 0, 3}, {60, 0, NONE, 55, 0, 3}};
        for (int[] row : dueRuns) {
            for (int what = 0; what < 5; what++) {
                due.is("16: runs(" + row[0] + ", " + what + ")", x.runs(row[0], what), row[what + 1]);
            }
        }
        due.is("16: runs(61, 0)", x.runs(61, 0), BAD);
        due.is("16: runs(-1, 0)", x.runs(-1, 0), BAD);
        due.is("16: runs(0, 5)", x.runs(0, 5), BAD);
        due.is("16: runs(0, -1)", x.runs(0, -1), BAD);
        due.is("16: nothing is changed", x.rule(5), 17);

        SnowReign y = told("packed 9 20; wet 7 20; powder 0 31; day 1 9 8;");
        y.days(1);
        due.is("17: ahead(0, 0, 0)", y.ahead(0, 0, 0), 9);
        due.is("17: ahead(0, 1, 0)", y.ahead(0, 1, 0), 5);
        due.is("17: ahead(0, 1, 1)", y.ahead(0, 1, 1), 22);
        due.is("17: ahead(0, 8, 0)", y.ahead(0, 8, 0), 0);
        due.is("17: ahead(0, 8, 1)", y.ahead(0, 8, 1), 24);
        due.is("17: ahead(0, 60, 1)", y.ahead(0, 60, 1), 24);
        due.is("17: ahead(1, 1, 0)", y.ahead(1, 1, 0), 0);
        due.is("17: ahead(1, 1, 1), though nothing is left", y.ahead(1, 1, 1), 24);
        due.is("17: ahead(2, 60, 1)", y.ahead(2, 60, 1), 31);
        due.is("17: ahead(3, 1, 0)", y.ahead(3, 1, 0), BAD);
        due.is("17: ahead(-1, 1, 0)", y.ahead(-1, 1, 0), BAD);
        due.is("17: ahead(0, 61, 0)", y.ahead(0, 61, 0), BAD);
        due.is("17: ahead(0, -1, 0)", y.ahead(0, -1, 0), BAD);
        due.is("17: ahead(0, 1, 2)", y.ahead(0, 1, 2), BAD);
        due.is("17: ahead(0, 1, -1)", y.ahead(0, 1, -1), BAD);

        due.is("18: falls(0)", y.falls(0), 8);
        due.is("18: falls(1)", y.falls(1), 1);
        due.is("18: falls(2)", y.falls(2), 0);
        due.is("18: falls(3)", y.falls(3), BAD);
        due.is("18: falls(-1)", y.falls(-1), BAD);
        SnowReign z = told("powder 60 20; powder 61 20;");
        due.is("18: falls(0) of 60", z.falls(0), 60);
        due.is("18: falls(1) of 61", z.falls(1), NONE);
    }

    private static void reigns() {
        SnowReign x = told("powder 4 20; wet 20 23; powder 5 22;");
        long[][] parts = {{0, 1, 1, 1}, {0, 6, 2, 3}, {0, 60, 1, 15}, {1, 6, 1, 3}, {1, 4, 0, 1}, {1, 60, 1, 12}, {2, 60, 0, 1}};
        for (long[] row : parts) {
            int i = (int) row[0];
            int n = (int) row[1];
            due.is("19: reign(" + i + ", " + n + ", 0)", x.reign(i, n, 0), row[2]);
            due.is("19: reign(" + i + ", " + n + ", 1)", x.reign(i, n, 1), row[3]);
        }
        due.is("19: reign(3, 1, 0)", x.reign(3, 1, 0), BAD);
        due.is("19: reign(-1, 1, 0)", x.reign(-1, 1, 0), BAD);
        due.is("19: reign(0, 0, 0)", x.reign(0, 0, 0), BAD);
        due.is("19: reign(0, 61, 0)", x.reign(0, 61, 0), BAD);
        due.is("19: reign(0, 1, 2)", x.reign(0, 1, 2), BAD);
        due.is("19: reign(0, 1, -1)", x.reign(0, 1, -1), BAD);

        due.is("20: decree(0)", x.decree(0), 0);
        due.is("20: decree(3)", x.decree(3), 0);
        due.is("20: decree(4)", x.decree(4), 3);
        due.is("20: decree(8)", x.decree(8), 3);
        due.is("20: decree(9), as it leans by more than it has", x.decree(9), NONE);
        due.is("20: decree(61)", x.decree(61), BAD);
        due.is("20: decree(60)", x.decree(60), NONE);
        due.is("20: decree(60) of one that STANDS", told("packed 9 23;").decree(60), 3);
        due.is("20: decree(-1)", x.decree(-1), BAD);

        due.is("21: coup()", x.coup(), 4);
        x.days(4);
        due.is("21: coup() of the next", x.coup(), 5);
        x.days(5);
        due.is("21: coup() of nobody", x.coup(), NONE);
        due.is("21: coup() at 60", told("powder 60 20;").coup(), 60);
        due.is("21: coup() behind 60", told("powder 61 20;").coup(), NONE);
    }

    private static void whatIsBest() {
        SnowReign x = told("powder 1 20; wet 0 20; packed 50 25;");
        due.is("22: need(0, 0)", x.need(0, 0), 1);
        due.is("22: need(0, 60)", x.need(0, 60), 61);
        due.is("22: need(1, 49)", x.need(1, 49), 99);
        due.is("22: need(1, 50)", x.need(1, 50), NONE);
        due.is("22: need(2, 0)", x.need(2, 0), 1);
        due.is("22: need(2, 1)", x.need(2, 1), 5);
        due.is("22: need(3, 1)", x.need(3, 1), BAD);
        due.is("22: need(-1, 1)", x.need(-1, 1), BAD);
        due.is("22: need(0, 61)", x.need(0, 61), BAD);
        due.is("22: need(0, -1)", x.need(0, -1), BAD);

        SnowReign y = told("powder 5 20; powder 50 20; powder 55 20;");
        weather(y, 5, 4);
        due.is("23: bucket(0)", y.bucket(0), 2);
        due.is("23: bucket(1)", y.bucket(1), 5);
        y.clear(2);
        due.is("23: bucket(0) of two", y.bucket(0), 1);
        due.is("23: bucket(1) of two", y.bucket(1), 10);
        due.is("23: bucket(2)", y.bucket(2), BAD);
        due.is("23: bucket(-1)", y.bucket(-1), BAD);
        y.ice(1);
        due.is("23: bucket(0) of one iced", y.bucket(0), NONE);
        due.is("23: bucket(1) of one iced", y.bucket(1), NONE);
        SnowReign same = told("wet 0 20; powder 5 20; powder 10 20;");
        due.is("23: bucket(0), of several the first that STANDS", same.bucket(0), 1);
        due.is("23: bucket(1), of several", same.bucket(1), 0);
        SnowReign long60 = told("powder 40 20;");
        due.is("23: bucket(0) of 60 DAYS", long60.bucket(0), 0);
        due.is("23: bucket(1) of 60 DAYS", long60.bucket(1), 0);
        long60.alter(0, 1, 59);
        due.is("23: bucket(0) by one DAY", long60.bucket(0), 0);
        long60.alter(0, 1, 60);
        due.is("23: bucket(0) by none", long60.bucket(0), NONE);
        long60.clear(0);
        due.is("23: bucket(0) of none", long60.bucket(0), NONE);

        SnowReign z = told("powder 3 20; packed 50 20; packed 40 20;");
        due.is("24: swap(10, 0), of several the least", z.swap(10, 0), 1);
        due.is("24: swap(10, 1)", z.swap(10, 1), 0);
        due.is("24: swap(3, 0), at the end of the last", z.swap(3, 0), 1);
        due.is("24: swap(2, 0)", z.swap(2, 0), NONE);
        due.is("24: swap(2, 1)", z.swap(2, 1), NONE);
        due.is("24: swap(0, 0)", z.swap(0, 0), BAD);
        due.is("24: swap(61, 0)", z.swap(61, 0), BAD);
        due.is("24: swap(1, 2)", z.swap(1, 2), BAD);
        due.is("24: swap(1, -1)", z.swap(1, -1), BAD);
        z.alter(1, 0, 0);
        z.alter(1, 1, 5);
        due.is("24: swap(10, 0) of the last", z.swap(10, 0), 2);
        due.is("24: nothing is changed", z.figure(0, 1), 3);
        SnowReign fallen = told("iced 0 20; powder 3 20; packed 50 20;");
        due.is("24: swap(10, 0) of one that does not STAND", fallen.swap(10, 0), 2);
        SnowReign nobody = told("powder 3 20; powder 5 20;");
        due.is("24: swap(10, 0) till nobody", nobody.swap(10, 0), 1);
        due.is("24: swap(10, 1) till nobody", nobody.swap(10, 1), 1);
        due.is("24: swap(60, 0)", nobody.swap(60, 0), 1);
        due.is("24: swap(60, 1)", nobody.swap(60, 1), 1);
        nobody.alter(0, 1, 1);
        due.is("24: swap(1, 0)", nobody.swap(1, 0), 1);
        due.is("24: swap(1, 1)", nobody.swap(1, 1), 0);
        nobody.clear(1);
        due.is("24: swap(1, 0) of one", nobody.swap(1, 0), NONE);

        SnowReign w = told("powder 5 20; wet 7 20; powder 50 20; day 1 1 8; day 2 1 0;");
        due.is("25: lee(2, 0)", w.lee(2, 0), 1);
        due.is("25: lee(2, 1)", w.lee(2, 1), 3);
        w.alter(1, 1, 8);
        due.is("25: lee(2, 1), as it stands without", w.lee(2, 1), 3);
        due.is("25: lee(0, 0)", w.lee(0, 0), NONE);
        due.is("25: lee(1, 1)", w.lee(1, 1), NONE);
        due.is("25: lee(61, 0)", w.lee(61, 0), BAD);
        due.is("25: lee(-1, 0)", w.lee(-1, 0), BAD);
        due.is("25: lee(1, 2)", w.lee(1, 2), BAD);
        due.is("25: lee(1, -1)", w.lee(1, -1), BAD);
        due.is("25: nothing is changed", w.week(1, 1), 8);
        SnowReign tie = told("iced 7 20; day 2 0 8; day 4 0 8;");
        due.is("25: lee(5, 0), of several the first", tie.lee(5, 0), 2);
        due.is("25: lee(5, 1), of several", tie.lee(5, 1), 1);
        due.is("25: lee(60, 0)", told("iced 3 20; day 0 0 8;").lee(60, 0), 0);
        due.is("25: lee(60, 1)", told("iced 3 20; day 6 0 8;").lee(60, 1), 1);
    }

    private static void longest() {
        SnowReign x = told("wet 5 20; wet 0 20;");
        due.is("26: kind(0, 0), of several the first", x.kind(0, 0), 1);
        due.is("26: kind(0, 1), of none", x.kind(0, 1), 61);
        due.is("26: kind(1, 0)", x.kind(1, 0), 0);
        due.is("26: kind(1, 1)", x.kind(1, 1), 0);
        weather(x, 9, 4);
        x.alter(0, 1, 12);
        due.is("26: kind(0, 0) in warmth", x.kind(0, 0), 3);
        due.is("26: kind(0, 1) in warmth", x.kind(0, 1), 4);
        due.is("26: kind(2, 0)", x.kind(2, 0), BAD);
        due.is("26: kind(-1, 0)", x.kind(-1, 0), BAD);
        due.is("26: kind(0, 2)", x.kind(0, 2), BAD);
        due.is("26: kind(0, -1)", x.kind(0, -1), BAD);
        due.is("26: nothing is changed", x.figure(0, 0), 2);

        weather(x, 0, 5);
        x.alter(0, 1, 10);
        due.is("27: face(0, 0)", x.face(0, 0), 9);
        due.is("27: face(0, 1)", x.face(0, 1), 22);
        due.is("27: face(1, 0)", x.face(1, 0), 0);
        due.is("27: face(1, 1)", x.face(1, 1), 0);
        weather(x, 0, 3);
        due.is("27: face(0, 0) to the left", x.face(0, 0), 31);
        due.is("27: face(0, 1) to the left", x.face(0, 1), 22);
        x.alter(0, 1, 20);
        due.is("27: face(0, 0), of several the first", x.face(0, 0), 0);
        due.is("27: face(0, 1), of several", x.face(0, 1), 61);
        due.is("27: face(2, 0)", x.face(2, 0), BAD);
        due.is("27: face(-1, 0)", x.face(-1, 0), BAD);
        due.is("27: face(0, 2)", x.face(0, 2), BAD);
        due.is("27: face(0, -1)", x.face(0, -1), BAD);

        SnowReign y = told("powder 20 20; iced 4 20; packed 0 20; day 0 9 8; day 3 9 4;");
        due.is("28: thaw(0, 0)", y.thaw(0, 0), 9);
        due.is("28: thaw(0, 1)", y.thaw(0, 1), 9);
        due.is("28: thaw(0, 2)", y.thaw(0, 2), 8);
        due.is("28: thaw(0, 10)", y.thaw(0, 10), 1);
        due.is("28: thaw(0, 60), as it may lean by 20", y.thaw(0, 60), 0);
        due.is("28: thaw(1, 1), as it leans by 4", y.thaw(1, 1), 3);
        due.is("28: thaw(1, 8)", y.thaw(1, 8), NONE);
        due.is("28: thaw(2, 0)", y.thaw(2, 0), NONE);
        due.is("28: thaw(3, 0)", y.thaw(3, 0), BAD);
        due.is("28: thaw(-1, 0)", y.thaw(-1, 0), BAD);
        due.is("28: thaw(0, 61)", y.thaw(0, 61), BAD);
        due.is("28: thaw(0, -1)", y.thaw(0, -1), BAD);
        due.is("28: nothing is changed", y.week(3, 0), 9);
    }

    private static void part(String call, long up, long down, long wantUp, long wantDown) {
        due.is(call + " numerator", up, wantUp);
        due.is(call + " denominator", down, wantDown);
    }

    private static void salt() {
        SnowReign x = told("powder 3 20;");
        part("29: luck(5, 0)", x.luck(5, 0, 0), x.luck(5, 0, 1), 1, 1);
        part("29: luck(5, 1)", x.luck(5, 1, 0), x.luck(5, 1, 1), 1, 2);
        part("29: luck(5, 2)", x.luck(5, 2, 0), x.luck(5, 2, 1), 1, 4);
        part("29: luck(3, 1)", x.luck(3, 1, 0), x.luck(3, 1, 1), 7, 10);
        part("29: luck(1, 1)", x.luck(1, 1, 0), x.luck(1, 1, 1), 9, 10);
        part("29: luck(9, 1)", x.luck(9, 1, 0), x.luck(9, 1, 1), 1, 10);
        part("29: luck(0, 2)", x.luck(0, 2, 0), x.luck(0, 2, 1), 1, 1);
        part("29: luck(0, 3)", x.luck(0, 3, 0), x.luck(0, 3, 1), 0, 1);
        part("29: luck(10, 1)", x.luck(10, 1, 0), x.luck(10, 1, 1), 0, 1);
        part("30: mean(5, 0)", x.mean(5, 0, 0), x.mean(5, 0, 1), 3, 1);
        part("30: mean(5, 1)", x.mean(5, 1, 0), x.mean(5, 1, 1), 1, 1);
        part("30: mean(3, 1)", x.mean(3, 1, 0), x.mean(3, 1, 1), 7, 5);
        x.alter(0, 1, 9);
        part("30: mean(5, 1) of 9", x.mean(5, 1, 0), x.mean(5, 1, 1), 11, 2);
        part("30: mean(1, 1) of 9", x.mean(1, 1, 0), x.mean(1, 1, 1), 15, 2);
        part("30: mean(10, 1) of 9", x.mean(10, 1, 0), x.mean(10, 1, 1), 3, 1);
        part("30: mean(3, 2) of 9", x.mean(3, 2, 0), x.mean(3, 2, 1), 112, 25);
        x.roll(1, 1);
        part("29: luck(10, 2) of the next", x.luck(10, 2, 0), x.luck(10, 2, 1), 1, 1);
        part("29: luck(10, 3) of the next", x.luck(10, 3, 0), x.luck(10, 3, 1), 0, 1);
        part("30: mean(10, 2) of the next", x.mean(10, 2, 0), x.mean(10, 2, 1), 1, 1);
        SnowReign all = told("packed 99 20; packed 99 20;");
        part("29: luck(7, 8)", all.luck(7, 8, 0), all.luck(7, 8, 1), 1, 1);
        part("30: mean(0, 8)", all.mean(0, 8, 0), all.mean(0, 8, 1), 198, 1);
        all.clear(1);
        all.alter(0, 1, 1);
        part("29: luck(7, 8) of one", all.luck(7, 8, 0), all.luck(7, 8, 1), 6561, 100000000);
        part("30: mean(7, 8) of one", all.mean(7, 8, 0), all.mean(7, 8, 1), 6561, 100000000);
        SnowReign none = new SnowReign();
        part("29: luck(7, 8) of none", none.luck(7, 8, 0), none.luck(7, 8, 1), 0, 1);
        part("30: mean(7, 8) of none", none.mean(7, 8, 0), none.mean(7, 8, 1), 0, 1);
        int[][] bad = {{-1, 1, 0}, {11, 1, 0}, {1, -1, 0}, {1, 9, 0}, {1, 1, -1}, {1, 1, 2}};
        for (int[] row : bad) {
            due.is("29: luck, BAD", x.luck(row[0], row[1], row[2]), BAD);
            due.is("30: mean, BAD", x.mean(row[0], row[1], row[2]), BAD);
        }
        due.is("30: nothing is changed", x.figure(0, 1), 9);
    }

    private static void seen() {
        SnowReign x = told("powder 3 20; day 0 1 5;");
        due.is("33: kinds(0) of nothing SEEN", x.kinds(0), 15);
        due.is("34: sizes(0) of nothing SEEN", x.sizes(0), Integer.MAX_VALUE);
        due.is("35: leans(0, 0) of nothing SEEN", x.leans(0, 0), 41);
        due.is("35: leans(0, 1) of nothing SEEN", x.leans(0, 1), 0);
        due.is("31: see(31, 0)", x.see(31, 0), BAD);
        due.is("31: see(-1, 0)", x.see(-1, 0), BAD);
        due.is("31: see(0, 4)", x.see(0, 4), BAD);
        due.is("31: see(0, 8)", x.see(0, 8), BAD);
        due.is("31: see(0, 10)", x.see(0, 10), BAD);
        due.is("31: see(0, -1)", x.see(0, -1), BAD);
        due.is("31: see(1, 1)", x.see(1, 1), 1);
        due.is("33: kinds(0) by see(1, 1)", x.kinds(0), 5);
        due.is("34: sizes(0) by see(1, 1)", x.sizes(0), Integer.MAX_VALUE - 3);
        due.is("32: forget(2)", x.forget(2), BAD);
        due.is("32: forget(-1)", x.forget(-1), BAD);
        due.is("32: forget(0)", x.forget(0), 1);
        x.see(1, 0);
        due.is("33: kinds(0) by see(1, 0)", x.kinds(0), 10);
        x.forget(0);
        x.see(3, 9);
        due.is("33: kinds(0) by see(3, 9)", x.kinds(0), 5);
        due.is("34: sizes(0) by see(3, 9)", x.sizes(0), 15);
        x.see(2, 1);
        due.is("33: kinds(0) by see(3, 9), see(2, 1)", x.kinds(0), 1);
        due.is("34: sizes(0) by see(3, 9), see(2, 1)", x.sizes(0), 8);
        x.days(1);
        due.is("33: kinds(0) from how it stands now", x.kinds(0), 0);
        x.forget(0);
        due.is("31: see(0, 1)", x.see(0, 1), 1);
        due.is("35: leans(0, 0) by see(0, 1)", x.leans(0, 0), 10);
        due.is("35: leans(0, 1) by see(0, 1)", x.leans(0, 1), 1);
        x.alter(0, 1, 0);
        due.is("35: leans(0, 0) of none", x.leans(0, 0), 0);
        due.is("35: leans(0, 1) of none", x.leans(0, 1), NONE);
        for (int n = 2; n <= 6; n++) {
            due.is("31: see(30, 9)", x.see(30, 9), n);
        }
        due.is("31: a 7th", x.see(30, 9), FULL);
        due.is("31: a 7th that is BAD", x.see(31, 9), BAD);
        due.is("32: forget(1)", x.forget(1), 6);
        due.is("32: count(0)", x.count(0), 1);
        int[] there = {-1, 1};
        for (int i : there) {
            due.is("33: kinds, BAD", x.kinds(i), BAD);
            due.is("34: sizes, BAD", x.sizes(i), BAD);
            due.is("35: leans, BAD", x.leans(i, 0), BAD);
        }
        due.is("35: leans(0, 2)", x.leans(0, 2), BAD);
        due.is("35: leans(0, -1)", x.leans(0, -1), BAD);
        SnowReign y = told("powder 2 20; iced 9 21;");
        y.see(2, 1);
        due.is("34: sizes(0), the next one REIGNS then", y.sizes(0), 7);
        due.is("33: kinds(1), all of them", y.kinds(1), 15);
        due.is("33: nothing is changed", y.figure(1, 0), 3);
    }

    private static void ask() {
        SnowReign x = told("powder 3 20; day 0 1 5;");
        due.is("36: ask(0, 0)", x.ask(0, 0), 1);
        due.is("36: ask(0, 1)", x.ask(0, 1), 2);
        x.see(1, 1);
        due.is("36: ask(0, 0) by see(1, 1)", x.ask(0, 0), 2);
        due.is("36: ask(0, 1) by see(1, 1)", x.ask(0, 1), 1);
        x.see(2, 9);
        due.is("36: ask(0, 0) of one", x.ask(0, 0), NONE);
        due.is("36: ask(0, 1) of one", x.ask(0, 1), NONE);
        x.forget(1);
        x.see(2, 1);
        due.is("36: ask(0, 0) of powder alone", x.ask(0, 0), NONE);
        SnowReign iced = told("wet 12 20;");
        weather(iced, 9, 4);
        iced.see(3, 0);
        due.is("33: kinds(0) of iced alone", iced.kinds(0), 8);
        due.is("36: ask(0, 0) of iced alone", iced.ask(0, 0), NONE);
        iced.forget(0);
        due.is("36: ask(0, 0) of all, by what stands", iced.ask(0, 0), 2);
        due.is("36: ask(0, 1) of all, by what stands", iced.ask(0, 1), 2);
        x.see(2, 3);
        due.is("36: ask(0, 0) of none", x.ask(0, 0), NONE);
        due.is("36: ask(1, 0)", x.ask(1, 0), BAD);
        due.is("36: ask(-1, 0)", x.ask(-1, 0), BAD);
        due.is("36: ask(0, 2)", x.ask(0, 2), BAD);
        due.is("36: ask(0, -1)", x.ask(0, -1), BAD);
        SnowReign last = told("powder 30 20;");
        last.see(15, 0);
        due.is("36: ask(0, 0) behind the last", last.ask(0, 0), 30);
        last.alter(0, 1, 31);
        due.is("36: ask(0, 0), looked at too early", last.ask(0, 0), 16);
        last.forget(0);
        last.see(30, 0);
        due.is("36: ask(0, 0), alike in all", last.ask(0, 0), NONE);
    }

    private static void drift() {
        SnowReign x = new SnowReign();
        due.is("37: drift(1, 1, 0) of none", x.drift(1, 1, 0), STATE);
        due.is("37: drift(1, 0, 0) of none", x.drift(1, 0, 0), BAD);
        x.roll(0, 30);
        x.roll(0, 11);
        due.is("37: drift(1, 1, 1)", x.drift(1, 1, 1), 22);
        due.is("37: drift(1, 1, 0)", x.drift(1, 1, 0), 1);
        due.is("37: drift(1, 2, 1)", x.drift(1, 2, 1), 14);
        due.is("37: drift(1, 3, 1)", x.drift(1, 3, 1), 11);
        due.is("37: drift(1, 60, 1)", x.drift(1, 60, 1), 0);
        due.is("37: drift(0, 1, 1)", x.drift(0, 1, 1), 41);
        due.is("37: drift(0, 1, 0)", x.drift(0, 1, 0), 3);
        due.is("37: bit 31 is not got", x.drift(Integer.MIN_VALUE, 1, 1), 41);
        due.is("37: drift(1, 61, 0)", x.drift(1, 61, 0), BAD);
        due.is("37: drift(1, -1, 0)", x.drift(1, -1, 0), BAD);
        due.is("37: drift(1, 1, 2)", x.drift(1, 1, 2), BAD);
        due.is("37: drift(1, 1, -1)", x.drift(1, 1, -1), BAD);
        due.is("37: drift(-1, 60, 0)", x.drift(-1, 60, 0), 0);
        due.is("37: nothing is changed", x.rule(5), 41);
        due.is("37: DAY neither", x.rule(1), 0);
    }

    private static void images() {
        SnowReign x = told("wet 9 20; powder 30 21; day 0 2 6;");
        due.is("38: keep(2)", x.keep(2), BAD);
        due.is("38: keep(-1)", x.keep(-1), BAD);
        due.is("39: back(2)", x.back(2), BAD);
        due.is("39: back(-1)", x.back(-1), BAD);
        x.days(2);
        due.is("38: keep(1)", x.keep(1), 0);
        due.is("39: back(0)", x.back(0), STATE);
        x.see(1, 1);
        x.days(5);
        x.set(0, 0, 9);
        x.alter(1, 0, 3);
        x.clear(1);
        due.is("38: keep(0)", x.keep(0), 0);
        due.is("39: back(1)", x.back(1), 2);
        due.is("39: rule(0)", x.rule(0), 2);
        due.is("39: rule(1)", x.rule(1), 2);
        due.is("39: figure(0, 1)", x.figure(0, 1), 3);
        due.is("39: figure(0, 2)", x.figure(0, 2), 22);
        due.is("39: figure(1, 0)", x.figure(1, 0), 0);
        due.is("39: week(0, 0)", x.week(0, 0), 2);
        due.is("39: week(0, 1)", x.week(0, 1), 6);
        due.is("39: SEEN stay", x.count(0), 1);
        x.days(3);
        due.is("39: back(1) again", x.back(1), 2);
        due.is("39: back(0) now", x.back(0), 7);
        due.is("39: rule(0) now", x.rule(0), 1);
        due.is("39: week(0, 0) now", x.week(0, 0), 9);
        due.is("38: keep(1) again", x.keep(1), 1);
        due.is("39: back(1) of the latest", x.back(1), 7);
    }

    private static void sheets() {
        SnowReign x = new SnowReign();
        int[][] bad = {{-1, 0, 1}, {4, 0, 1}, {0, -1, 1}, {0, 3, 1}, {0, 0, 41}, {4, 0, -1}, {0, 3, -1}};
        for (int[] row : bad) {
            due.is("40: sheet, BAD", x.sheet(row[0], row[1], row[2]), BAD);
        }
        due.is("40: sheet(0, 0, -1)", x.sheet(0, 0, -1), -14);
        due.is("40: sheet(0, 0, least)", x.sheet(0, 0, Integer.MIN_VALUE), -14);
        due.is("40: count(3)", x.count(3), NONE);
        due.is("40: sheet(0, 0, 40)", x.sheet(0, 0, 40), 1);
        due.is("40: count(3) then", x.count(3), 40);
        due.is("40: sheet(1, 1, 2)", x.sheet(1, 1, 2), 1);
        due.is("40: sheet(2, 2, 2)", x.sheet(2, 2, 2), 1);
        due.is("40: sheet(3, 2, 0)", x.sheet(3, 2, 0), 1);
        due.is("41: lay(4, 0, 0)", x.lay(4, 0, 0), BAD);
        due.is("41: lay(-1, 0, 0)", x.lay(-1, 0, 0), BAD);
        due.is("41: lay(0, 40, 0)", x.lay(0, 40, 0), -12);
        due.is("41: lay(0, -1, 0)", x.lay(0, -1, 0), -12);
        due.is("41: lay(3, 0, 0)", x.lay(3, 0, 0), -12);
        due.is("41: lay(0, 39, 0)", x.lay(0, 39, 0), 1);
        due.is("41: a BYTE", x.lay(0, 1, 256 + 99), 1);
        due.is("41: another", x.lay(0, 0, -255), 1);
        due.is("42: read of BYTES", x.read(0, 0, 0, 1), 1);
        due.is("42: figure(0, 0)", x.figure(0, 0), 1);
        due.is("42: figure(0, 1)", x.figure(0, 1), 99);
        due.is("42: figure(0, 2)", x.figure(0, 2), 20);
        x.lay(0, 1, 128);
        due.is("42: a BYTE has a sign", x.read(0, 0, 0, 1), -20);
        x.lay(1, 0, 65536 + 2);
        x.lay(1, 1, 65536 + 98);
        due.is("42: read of SHORTS", x.read(1, 1, 0, 1), 1);
        due.is("42: figure(1, 0)", x.figure(1, 0), 2);
        due.is("42: figure(1, 1)", x.figure(1, 1), 98);
        x.lay(1, 1, 256 + 5);
        due.is("42: a SHORT is no BYTE", x.read(1, 1, 0, 1), -20);
        x.lay(2, 0, 65536 + 2);
        due.is("42: an INT is no SHORT", x.read(2, 2, 0, 1), -20);
        x.lay(2, 0, 3);
        x.lay(2, 1, 97);
        due.is("42: read of INTS", x.read(2, 2, 0, 1), 1);
        due.is("42: figure(2, 1)", x.figure(2, 1), 97);
        x.sheet(2, 2, 2);
        due.is("40: CELLS are 0 anew", x.read(2, 2, 0, 1), 1);
        due.is("40: figure(3, 0)", x.figure(3, 0), 0);
        due.is("40: figure(3, 1)", x.figure(3, 1), 0);
        x.sheet(2, 2, -1);
        due.is("40: what is refused changes nothing", x.lay(2, 1, 1), 1);
    }

    private static void reads() {
        SnowReign x = new SnowReign();
        x.sheet(1, 2, 9);
        for (int i = 0; i < 9; i++) {
            x.lay(1, i, i % 2 == 0 ? 1 : 10 + i);
        }
        due.is("42: read(4, 2, 0, 1)", x.read(4, 2, 0, 1), BAD);
        due.is("42: read(-1, 2, 0, 1)", x.read(-1, 2, 0, 1), BAD);
        due.is("42: read(1, 3, 0, 1)", x.read(1, 3, 0, 1), BAD);
        due.is("42: read(1, -1, 0, 1)", x.read(1, -1, 0, 1), BAD);
        due.is("42: read(1, 2, 0, 21)", x.read(1, 2, 0, 21), BAD);
        due.is("42: read(1, 2, 0, -1)", x.read(1, 2, 0, -1), BAD);
        due.is("42: a torn end", x.read(1, 2, 0, 20), 4);
        due.is("43: torn() INDEX", x.torn(), 2);
        due.is("42: those ahead came", x.rule(0), 4);
        due.is("42: the last of them", x.figure(3, 1), 17);
        due.is("42: the 6th is refused", x.read(1, 2, 4, 2), -21);
        due.is("42: none came", x.rule(0), 4);
        due.is("43: a refused one leaves it", x.torn(), 2);
        due.is("42: read(1, 2, 8, 1)", x.read(1, 2, 8, 1), 0);
        due.is("43: torn() of half a pair", x.torn(), 2);
        due.is("42: n 0", x.read(1, 2, 0, 0), 0);
        due.is("43: torn() of n 0", x.torn(), 0);
        due.is("42: another lane", x.read(1, 1, 100, 1), 0);
        due.is("43: torn() CAST", x.torn(), 3);
        due.is("42: another lane, n 0", x.read(1, 1, 100, 0), 0);
        due.is("43: torn() then", x.torn(), 0);
        due.is("42: nothing", x.read(0, 1, -5, 1), 0);
        due.is("43: torn() NULL", x.torn(), 1);
        due.is("42: nothing, n 0", x.read(0, 1, -5, 0), 0);
        due.is("43: torn() of nothing, n 0", x.torn(), 0);
        int[] far = {-1, -2, 9, 10, Integer.MAX_VALUE, Integer.MAX_VALUE - 1, Integer.MIN_VALUE};
        for (int f : far) {
            x.read(1, 2, 0, 0);
            due.is("42: read(1, 2, " + f + ", 20)", x.read(1, 2, f, 20), 0);
            due.is("43: torn() of that", x.torn(), 2);
        }
        due.is("42: one more", x.read(1, 2, 6, 1), 1);
        due.is("43: torn() of none", x.torn(), 0);
        due.is("42: figure(4, 1)", x.figure(4, 1), 17);
        due.is("42: the 6th ahead of what is torn", x.read(1, 2, 6, 2), -20);
        x.clear(0);
        x.lay(1, 2, 4);
        due.is("42: the 2nd is no KIND", x.read(1, 2, 0, 20), -21);
        due.is("42: none came of it", x.rule(0), 0);
        due.is("42: the ones ahead of it", x.read(1, 2, 0, 1), 1);
        x.sheet(3, 0, 4);
        due.is("42: read(3, 0, 0, 2)", x.read(3, 0, 0, 2), 2);
        due.is("42: rule(0) then", x.rule(0), 3);
    }

    private static void counts() {
        SnowReign x = told("wet 9 20; day 0 9 8; day 6 0 0;");
        x.see(1, 1);
        x.see(1, 1);
        x.keep(1);
        x.feed('w');
        x.sheet(0, 1, 0);
        int[] counts = {2, 1, 1, 0, 14, 28};
        for (int what = 0; what < counts.length; what++) {
            due.is("44: count(" + what + ")", x.count(what), counts[what]);
        }
        x.keep(0);
        x.set(1, 1, 0);
        due.is("44: count(1) of both", x.count(1), 2);
        due.is("44: count(5) then", x.count(5), 24);
        due.is("44: count(6)", x.count(6), BAD);
        due.is("44: count(-1)", x.count(-1), BAD);
    }
}
