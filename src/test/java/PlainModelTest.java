/** Long runs of calls, the same every time, in which the class and the plain model must agree. */
public final class PlainModelTest {
    private static final int RUNS = 3000;
    /** The document promises nothing about an object behind these. */
    private static final int CALLS = 512;
    private static final int CALLS_OF_COMPARE_ALL = 4 * (8 + 6 + 1) + 6;
    private static final Due DUE = new Due("plain model");

    private long seed;
    private int calls;
    private final MovingBlock x = new MovingBlock();
    private final PlainModel y = new PlainModel();

    private PlainModelTest(int run) {
        seed = run * 7919L + 17;
    }

    public static void main(String[] args) {
        int[] seen = new int[6];
        for (int run = 0; run < RUNS && !DUE.anyWrong(); run++) {
            PlainModelTest test = new PlainModelTest(run);
            test.go(run);
            test.see(seen);
        }
        String[] names = {"emergencies", "lost", "not taken", "fronts beyond 2048", "fronts in piece 7",
            "reaches beyond authority"};
        for (int i = 0; i < seen.length; i++) {
            System.out.println(names[i] + ": " + seen[i]);
            if (i < 5) {
                DUE.is("the runs have " + names[i], seen[i] > 0 ? 1 : 0, 1);
            }
        }
        DUE.end();
    }

    private void see(int[] seen) {
        for (int t = 0; t < y.trains.size(); t++) {
            seen[0] += y.state(t, 3);
            seen[3] += y.measure(t, 0) >= 16384 ? 1 : 0;
            seen[4] += y.state(t, 5) == 7 ? 1 : 0;
            seen[5] += y.permitted(t) < 0 ? 1 : 0;
        }
        seen[1] += y.lost;
        seen[2] += y.notTaken;
    }

    /** Some runs have wild numbers throughout; in the others the trains get far. */
    private void go(int run) {
        int calm = run % 3;
        if (calm > 0) {
            enterSome();
        }
        while (calls < CALLS - CALLS_OF_COMPARE_ALL && !DUE.anyWrong()) {
            if (below(2) == 0) {
                readOne(run);
            } else if (calm == 0 || below(calm == 1 ? 4 : 12) == 0) {
                change(run);
            } else {
                tick(run, below(8) + 1);
            }
            calls++;
        }
        compareAll(run);
    }

    private void enterSome() {
        int front = 300 + below(3700);
        for (int t = 0; t < 4 && front >= 200; t++) {
            int length = between(20, 200);
            DUE.is("enter", x.enter(length, front), y.enter(length, front));
            DUE.is("demand", x.demand(t, 1), y.demand(t, 1));
            calls += 2;
            front -= length + 8 + below(400);
        }
    }

    private int below(int bound) {
        seed = seed * 6364136223846793005L + 1442695040888963407L;
        return (int) ((seed >>> 33) % bound);
    }

    private int between(int least, int greatest) {
        return least + below(greatest - least + 1);
    }

    /** Mostly within the range, now and then just outside it. */
    private int about(int least, int greatest) {
        return below(12) == 0 ? (below(2) == 0 ? least - 1 : greatest + 1) : between(least, greatest);
    }

    private void tick(int run, int n) {
        DUE.is("run " + run + ": tick(" + n + ")", x.tick(n), y.tick(n));
    }

    private void change(int run) {
        String name = "run " + run + ", call " + calls;
        int train = about(0, 3);
        switch (below(9)) {
            case 0: {
                int piece = about(0, 7);
                int limit = below(3) == 0 ? about(1, 40) : between(5, 40);
                int grade = about(-1, 1);
                DUE.is(name + " piece", x.piece(piece, limit, grade), y.piece(piece, limit, grade));
                break;
            }
            case 1: {
                int hold = about(0, 3);
                int place = about(0, 4096);
                boolean closed = below(3) == 0;
                DUE.is(name + " hold", x.hold(hold, place, closed), y.hold(hold, place, closed));
                break;
            }
            case 2: {
                int zone = about(0, 1);
                boolean up = below(4) != 0;
                DUE.is(name + " controller", x.controller(zone, up), y.controller(zone, up));
                break;
            }
            case 3: {
                int length = about(20, 200);
                int front = about(length, 4000);
                DUE.is(name + " enter", x.enter(length, front), y.enter(length, front));
                break;
            }
            case 4:
            case 5: {
                int demand = below(3) == 0 ? about(-1, 1) : 1;
                DUE.is(name + " demand", x.demand(train, demand), y.demand(train, demand));
                break;
            }
            case 6: {
                int drift = about(-2, 2);
                DUE.is(name + " drift", x.drift(train, drift), y.drift(train, drift));
                break;
            }
            case 7: {
                int up = about(below(3) == 0 ? 0 : 1, 5);
                int down = about(below(3) == 0 ? 0 : 1, 5);
                DUE.is(name + " radio", x.radio(train, up, down), y.radio(train, up, down));
                break;
            }
            default:
                tick(run, about(1, 8));
        }
    }

    private void readOne(int run) {
        String name = "run " + run + " at " + y.clock;
        int train = about(0, 3);
        switch (below(4)) {
            case 0:
                readMeasure(name, train, about(0, 7));
                break;
            case 1:
                readState(name, train, about(0, 5));
                break;
            case 2:
                readPermitted(name, train);
                break;
            default:
                readCount(name, about(0, 5));
        }
    }

    private void compareAll(int run) {
        String name = "run " + run + " at " + y.clock;
        for (int train = 0; train <= 3; train++) {
            for (int what = 0; what <= 7; what++) {
                readMeasure(name, train, what);
            }
            for (int what = 0; what <= 5; what++) {
                readState(name, train, what);
            }
            readPermitted(name, train);
        }
        for (int what = 0; what <= 5; what++) {
            readCount(name, what);
        }
    }

    private void readMeasure(String name, int train, int what) {
        DUE.is(name + ": measure(" + train + ", " + what + ")", x.measure(train, what), y.measure(train, what));
    }

    private void readState(String name, int train, int what) {
        DUE.is(name + ": state(" + train + ", " + what + ")", x.state(train, what), y.state(train, what));
    }

    private void readPermitted(String name, int train) {
        DUE.is(name + ": permitted(" + train + ")", x.permitted(train), y.permitted(train));
    }

    private void readCount(String name, int what) {
        DUE.is(name + ": count(" + what + ")", x.count(what), y.count(what));
    }
}
