public final class Promise13CountTest {
    private static final Due DUE = new Due("count");

    public static void main(String[] args) {
        ranges();
        trainsAndMessages();
        beyond();
        DUE.end();
    }

    private static void ranges() {
        MovingBlock x = new MovingBlock();
        DUE.refused("count(-1)", x.count(-1));
        DUE.refused("count(6)", x.count(6));
        DUE.refused("count(MAX)", x.count(Integer.MAX_VALUE));
        DUE.refused("count(MIN)", x.count(Integer.MIN_VALUE));
        x.tick(7);
        DUE.is("count(0)", x.count(0), 7);
    }

    private static void trainsAndMessages() {
        MovingBlock x = new MovingBlock();
        for (int i = 0; i < 4; i++) {
            x.enter(20, 3000 - 500 * i);
            DUE.is("count(1)", x.count(1), i + 1);
            x.radio(i, 2 + i, 1);
        }
        x.tick(1);
        DUE.is("four reports on the way", x.count(3), 4);
        x.tick(8);
        DUE.is("1 + 2 + 3 + 4 on the way", x.count(3), 10);
        for (int i = 0; i < 4; i++) {
            x.radio(i, 1, 1);
        }
        x.tick(1);
        DUE.is("overtaken by the newer in the same tick: taken in order", x.count(5), 0);
        DUE.is("on the way", x.count(3), 6);
        x.tick(8);
        DUE.is("the overtaken ones were not taken", x.count(5), 6);
        DUE.is("none on the way", x.count(3), 0);
        for (int i = 0; i < 4; i++) {
            x.radio(i, 0, i % 2);
        }
        x.tick(3);
        DUE.is("lost", x.count(4), 3 * 4 + 3 * 2);
        DUE.is("lost ones have not arrived", x.count(5), 6);
    }

    /** Authorities keep every train behind the one before it, whatever the drifts, so count(2) is 0. */
    private static void beyond() {
        MovingBlock x = new MovingBlock();
        x.enter(100, 600);
        x.enter(100, 400);
        x.enter(100, 200);
        x.demand(1, 1);
        x.demand(2, 1);
        x.drift(1, -2);
        x.drift(2, 2);
        for (int i = 0; i < 60; i++) {
            x.tick(2);
            DUE.is("count(2)", x.count(2), 0);
            DUE.is("train 1 is behind train 0", x.measure(1, 0) <= x.measure(0, 7) ? 1 : 0, 1);
        }
    }
}
