/** Compares answers with those that are due, and ends a test with exit code 1 if one was wrong. */
final class Due {
    static final int REFUSED = -1000000;

    private final String test;
    private int wrong;
    private int compared;

    Due(String test) {
        this.test = test;
    }

    void is(String call, long got, long want) {
        compared++;
        if (got != want) {
            wrong++;
            System.out.println(test + ": " + call + " answered " + got + ", due is " + want);
        }
    }

    void refused(String call, long got) {
        is(call, got, REFUSED);
    }

    boolean anyWrong() {
        return wrong > 0;
    }

    void end() {
        System.out.println(wrong == 0 ? compared + " answers are as due" : wrong + " answers are not as due");
        if (wrong != 0) {
            System.exit(1);
        }
    }

    static void ticks(MovingBlock x, int n) {
        for (int left = n; left > 0; left -= 8) {
            x.tick(Math.min(left, 8));
        }
    }
}
