/** Compares answers with those that are due, and tells each that is not. */
final class Due {
    private final String test;
    private int asked;
    private int wrong;

    Due(String test) {
        this.test = test;
    }

    void is(String what, long got, long due) {
        asked++;
        if (got != due) {
            wrong++;
            System.out.println(test + ": " + what + " answered " + show(got) + ", due is " + show(due));
        }
    }

    int asked() {
        return asked;
    }

    void holds(String what, boolean is) {
        is(what, is ? 1 : 0, 1);
    }

    private static String show(long answer) {
        if (answer == Caller.WRONG_THROW) {
            return "a throw that is not promised";
        }
        return answer == Oracle.THROWS ? "a throw" : Long.toString(answer);
    }

    void finish() {
        System.out.println(test + ": " + asked + " answers, " + wrong + " wrong");
        if (wrong > 0 || asked == 0) {
            System.exit(1);
        }
    }
}
