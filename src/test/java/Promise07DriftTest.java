public final class Promise07DriftTest {
    private static final Due DUE = new Due("drift");

    public static void main(String[] args) {
        ranges();
        for (int drift = -2; drift <= 2; drift++) {
            estimateDrifts(drift);
        }
        DUE.end();
    }

    private static void ranges() {
        MovingBlock x = new MovingBlock();
        DUE.refused("no train", x.drift(0, 0));
        x.enter(50, 1000);
        DUE.is("drift(0, -2)", x.drift(0, -2), 1);
        DUE.is("drift(0, 2)", x.drift(0, 2), 1);
        DUE.is("drift(0, 2) again", x.drift(0, 2), 1);
        DUE.refused("drift(0, 3)", x.drift(0, 3));
        DUE.refused("drift(0, -3)", x.drift(0, -3));
        DUE.refused("drift(1, 0)", x.drift(1, 0));
        DUE.refused("drift(-1, 0)", x.drift(-1, 0));
        DUE.refused("drift(MAX, MAX)", x.drift(Integer.MAX_VALUE, Integer.MAX_VALUE));
        DUE.refused("drift(MIN, MIN)", x.drift(Integer.MIN_VALUE, Integer.MIN_VALUE));
        x.demand(0, 1);
        x.tick(1);
        DUE.is("drift 2 is left behind refused calls", x.measure(0, 2) - x.measure(0, 0), 2);
    }

    private static void estimateDrifts(int drift) {
        MovingBlock x = new MovingBlock();
        x.enter(20, 600);
        x.enter(20, 500);
        x.drift(1, drift);
        x.tick(4);
        DUE.is("a standing train does not drift", x.measure(1, 2), 4000);
        DUE.is("nor doubt", x.measure(1, 3), 0);
        x.demand(1, 1);
        x.tick(6);
        DUE.is("front", x.measure(1, 0), 4072);
        DUE.is("estimate", x.measure(1, 2), 4072 + 6 * drift);
        DUE.is("doubt", x.measure(1, 3), 12);
        x.tick(1);
        DUE.is("front in piece 1", x.measure(1, 0), 4098);
        DUE.is("estimate set right there", x.measure(1, 2), 4098);
        DUE.is("doubt set right there", x.measure(1, 3), 0);
        DUE.is("other train", x.measure(0, 2), 4800);
    }
}
