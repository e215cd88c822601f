/** Counts the answers that are not as due, and prints them. */
final class Due {
    private int wrong;
    private int asked;

    void is(String call, long got, long want) {
        asked++;
        if (got != want) {
            wrong++;
            System.out.println(call + " answered " + got + ", due is " + want);
        }
    }

    void isTrue(String claim, boolean holds) {
        asked++;
        if (!holds) {
            wrong++;
            System.out.println("not so: " + claim);
        }
    }

    boolean anyWrong() {
        return wrong > 0;
    }

    void close() {
        System.out.println(wrong == 0 ? asked + " answers, all as due" : wrong + " answers of " + asked + " are not as due");
        if (wrong != 0) {
            System.exit(1);
        }
    }
}
