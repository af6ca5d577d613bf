public final class Promise03HoldTest {
    private static final Due DUE = new Due("hold");

    public static void main(String[] args) {
        ranges();
        placesAndReach();
        nearestCounts();
        refusedChangesNothing();
        trainStopsBefore();
        DUE.end();
    }

    private static void ranges() {
        MovingBlock x = new MovingBlock();
        DUE.is("hold(0, 0, true)", x.hold(0, 0, true), 1);
        DUE.is("hold(3, 4096, false)", x.hold(3, 4096, false), 1);
        DUE.is("hold(3, 4096, false) again", x.hold(3, 4096, false), 1);
        DUE.refused("hold(-1, 5, true)", x.hold(-1, 5, true));
        DUE.refused("hold(4, 5, true)", x.hold(4, 5, true));
        DUE.refused("hold(0, -1, true)", x.hold(0, -1, true));
        DUE.refused("hold(0, 4097, false)", x.hold(0, 4097, false));
        DUE.refused("hold(MAX, MAX, true)", x.hold(Integer.MAX_VALUE, Integer.MAX_VALUE, true));
        DUE.refused("hold(MIN, MIN, true)", x.hold(Integer.MIN_VALUE, Integer.MIN_VALUE, true));
    }

    private static int authorityWith(int place, boolean closed) {
        MovingBlock x = new MovingBlock();
        x.enter(50, 1000);
        x.hold(2, place, closed);
        x.tick(1);
        return x.measure(0, 4);
    }

    private static void placesAndReach() {
        DUE.is("closed ahead", authorityWith(1500, true), 12000);
        DUE.is("open ahead", authorityWith(1500, false), 32768);
        DUE.is("closed at the reach", authorityWith(1000, true), 8000);
        DUE.is("closed below the reach", authorityWith(999, true), 32768);
        DUE.is("closed at the end", authorityWith(4096, true), 32768);
        DUE.is("closed at 0", authorityWith(0, true), 32768);
    }

    private static void nearestCounts() {
        MovingBlock x = new MovingBlock();
        x.enter(50, 1000);
        x.hold(0, 3000, true);
        x.hold(1, 1200, true);
        x.hold(2, 900, true);
        x.hold(3, 1100, true);
        x.tick(1);
        DUE.is("nearest is hold 3", x.measure(0, 4), 8800);
        x.hold(3, 1100, false);
        x.tick(1);
        DUE.is("nearest is hold 1", x.measure(0, 4), 9600);
        x.hold(1, 3500, true);
        x.tick(1);
        DUE.is("nearest is hold 0", x.measure(0, 4), 24000);
        x.hold(0, 800, true);
        x.tick(1);
        DUE.is("moved hold 1 is left", x.measure(0, 4), 28000);
    }

    private static void refusedChangesNothing() {
        MovingBlock x = new MovingBlock();
        x.enter(50, 1000);
        x.hold(0, 1200, true);
        x.hold(0, 4097, false);
        x.hold(4, 1100, true);
        x.tick(1);
        DUE.is("authority behind refused calls", x.measure(0, 4), 9600);
    }

    private static void trainStopsBefore() {
        MovingBlock x = new MovingBlock();
        x.enter(50, 1000);
        x.hold(0, 1400, true);
        x.demand(0, 1);
        Due.ticks(x, 200);
        DUE.is("has passed no hold", x.measure(0, 0) <= 11200 ? 1 : 0, 1);
        DUE.is("has come near", x.measure(0, 0) > 10800 ? 1 : 0, 1);
        DUE.is("without emergency", x.state(0, 3), 0);
    }
}
