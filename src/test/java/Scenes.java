/** Places that many edges begin at. */
final class Scenes {
    static final int BAD = -1, STATE = -2, FULL = -3, NONE = -4;

    /** Something of everything: 4 FIGURES, the second of which does not STAND, DAY 3, 2 SEEN, IMAGE 1, three SHEETS, a FAULT of each kind. */
    static final String[] RICH = {
        "tell(powder 30 20;packed 0 25;wet 9 18;iced 40 22;day 0 2 5;day 6 9 0;)", "days(2)", "see(0, 0)", "see(5, 0)", "keep(1)",
        "alter(0, 2, 23)", "days(1)", "sheet(0, 0, 4)", "lay(0, 0, 1)", "lay(0, 1, 17)", "lay(0, 2, 3)", "lay(0, 3, 5)",
        "sheet(1, 1, 5)", "lay(1, 1, 9)", "sheet(2, 2, 0)", "read(1, 1, 4, 1)", "tell(!)", "feeds(wet 7 9)"};

    /** DAY 999, the last there is, with these calls behind it. */
    static String[] atTheLastDay(String... then) {
        String[] all = new String[then.length + 2];
        all[0] = "33*days(30)";
        all[1] = "days(9)";
        System.arraycopy(then, 0, all, 2, then.length);
        return all;
    }

    private Scenes() {
    }
}
