/** The line with no train, with 4 trains, the room that a train needs to enter, and the most calls. */
public final class EdgesOfTheLineTest {
    private static final Due DUE = new Due("edges of the line");

    public static void main(String[] args) {
        noTrain();
        settingsBeforeTheFirstTrain();
        fourTrains();
        fourTrainsApart();
        fifthTrain();
        roomBehindAStandingTrain();
        roomBehindAMovingTrain();
        roomInEighths();
        roomForTheShortestAndTheLongest();
        enteredLater();
        frontNeverBeyondTheRearAhead();
        mostTicks();
        mostCalls();
        DUE.end();
    }

    private static void noTrain() {
        MovingBlock x = new MovingBlock();
        DUE.is("tick(1)", x.tick(1), 1);
        DUE.is("tick(8)", x.tick(8), 9);
        DUE.is("clock", x.count(0), 9);
        for (int what = 1; what <= 5; what++) {
            DUE.is("count(" + what + ")", x.count(what), 0);
        }
        for (int train = -1; train <= 4; train++) {
            DUE.refused("measure", x.measure(train, 0));
            DUE.refused("state", x.state(train, 0));
            DUE.refused("permitted", x.permitted(train));
            DUE.refused("demand", x.demand(train, 0));
            DUE.refused("drift", x.drift(train, 0));
            DUE.refused("radio", x.radio(train, 1, 1));
        }
    }

    private static void settingsBeforeTheFirstTrain() {
        MovingBlock x = new MovingBlock();
        DUE.is("piece", x.piece(1, 20, -1), 1);
        DUE.is("hold", x.hold(3, 1900, true), 1);
        DUE.is("controller", x.controller(1, false), 1);
        x.tick(8);
        DUE.is("enter", x.enter(20, 1000), 0);
        x.tick(1);
        DUE.is("hold counts", x.measure(0, 4), 15200);
        DUE.is("limit counts", x.permitted(0), 160);
        DUE.is("grade counts", x.measure(0, 1), 2);
        x.hold(3, 1900, false);
        x.tick(1);
        DUE.is("controller counts", x.measure(0, 4), 16384);
    }

    private static void fourTrains() {
        MovingBlock x = new MovingBlock();
        for (int train = 0; train < 4; train++) {
            DUE.is("enter", x.enter(200 - train, 4000 - 500 * train), train);
            DUE.is("trains", x.count(1), train + 1);
        }
        x.tick(1);
        for (int train = 0; train < 4; train++) {
            DUE.is("front", x.measure(train, 0), 32000 - 4000 * train);
            DUE.is("rear", x.measure(train, 7), 32000 - 4000 * train - 8 * (200 - train));
            int due = train == 0 ? Setup.LINE_END : x.measure(train - 1, 7) - 64;
            DUE.is("authority", x.measure(train, 4), due);
            DUE.is("report", x.state(train, 1), 1);
        }
        DUE.refused("measure(4, 0)", x.measure(4, 0));
        DUE.is("beyond", x.count(2), 0);
    }

    /** Demand, drift and delays are those of one train alone. */
    private static void fourTrainsApart() {
        for (int chosen = 0; chosen < 4; chosen++) {
            MovingBlock x = Setup.trains(4);
            x.demand(chosen, 1);
            x.drift(chosen, 1);
            x.radio(chosen, 2, 1);
            x.tick(6);
            for (int train = 0; train < 4; train++) {
                boolean is = train == chosen;
                int start = 8 * (3100 - 1000 * train);
                DUE.is("speed", x.measure(train, 1), is ? 20 : 0);
                DUE.is("front", x.measure(train, 0), start + (is ? 50 : 0));
                DUE.is("estimate", x.measure(train, 2), start + (is ? 55 : 0));
                DUE.is("doubt", x.measure(train, 3), is ? 10 : 0);
                DUE.is("report", x.state(train, 1), is ? 5 : 6);
                DUE.is("on the way", x.state(train, 4), is ? 1 : 0);
                DUE.is("authority", x.state(train, 2), 6);
            }
        }
    }

    /** "4 are there": REFUSED, though there would be room. */
    private static void fifthTrain() {
        MovingBlock x = Setup.trains(4);
        DUE.refused("behind all", x.enter(20, 72));
        DUE.refused("behind all again", x.enter(20, 20));
        DUE.refused("in between", x.enter(20, 500));
        DUE.refused("before all", x.enter(20, 4000));
        DUE.refused("too short as well", x.enter(19, 72));
        DUE.is("trains", x.count(1), 4);
        DUE.is("the last", x.measure(3, 0), 800);
        MovingBlock y = Setup.trains(3);
        DUE.is("the fourth", y.enter(20, 72), 3);
    }

    private static int behind(int length, int front, int newLength, int newFront) {
        MovingBlock x = Setup.oneTrain(length, front);
        return x.enter(newLength, newFront);
    }

    /** "its front is above the true rear of the one before it less 8 m: REFUSED" */
    private static void roomBehindAStandingTrain() {
        DUE.is("8 m", behind(100, 1000, 50, 892), 1);
        DUE.refused("7 m", behind(100, 1000, 50, 893));
        DUE.refused("at its rear", behind(100, 1000, 50, 900));
        DUE.refused("at its front", behind(100, 1000, 50, 1000));
        DUE.refused("before it", behind(100, 1000, 50, 2000));
        DUE.is("far behind", behind(100, 1000, 50, 50), 1);
    }

    private static void roomBehindAMovingTrain() {
        MovingBlock x = Setup.oneTrain(100, 1000);
        x.demand(0, 1);
        x.tick(4);
        DUE.is("rear", x.measure(0, 7), 7232);
        DUE.refused("by its first place it would do, and 5 m more", x.enter(50, 897));
        DUE.is("4 m more", x.enter(50, 896), 1);
    }

    /** Whole metres only can be entered: a rear one eighth short of the metre is not enough. */
    private static void roomInEighths() {
        MovingBlock x = Setup.oneTrain(100, 1000);
        Setup.roll(x, 1);
        x.tick(3);
        DUE.is("rear", x.measure(0, 7), 7207);
        DUE.refused("one eighth is missing", x.enter(50, 893));
        x.tick(1);
        DUE.is("rear", x.measure(0, 7), 7209);
        DUE.is("one eighth more than needed", x.enter(50, 893), 1);
        MovingBlock y = Setup.oneTrain(100, 1000);
        y.demand(0, 1);
        y.tick(2);
        DUE.is("rear", y.measure(0, 7), 7208);
        DUE.is("exactly enough", y.enter(50, 893), 1);
    }

    /** The last train can be where no other fits any more. */
    private static void roomForTheShortestAndTheLongest() {
        DUE.is("20 m behind 28 m", behind(20, 48, 20, 20), 1);
        DUE.refused("20 m behind 27 m", behind(20, 47, 20, 20));
        DUE.is("200 m behind 208 m", behind(200, 408, 200, 200), 1);
        DUE.refused("200 m behind 207 m", behind(200, 407, 200, 200));
        DUE.refused("a rear at 0", behind(20, 20, 20, 20));
    }

    /** A train that enters later begins anew, whatever the clock and the others. */
    private static void enteredLater() {
        MovingBlock x = Setup.trains(1);
        x.demand(0, 1);
        x.drift(0, 2);
        x.radio(0, 5, 5);
        Due.ticks(x, 20);
        DUE.is("enter", x.enter(30, 1000), 1);
        int[] measures = {8000, 0, 8000, 0, -1, -1, -1, 7760};
        for (int what = 0; what <= 7; what++) {
            DUE.is("measure(1, " + what + ")", x.measure(1, what), measures[what]);
        }
        int[] states = {0, 0, 0, 0, 0, 1};
        for (int what = 0; what <= 5; what++) {
            DUE.is("state(1, " + what + ")", x.state(1, what), states[what]);
        }
        DUE.is("permitted", x.permitted(1), -1);
        x.tick(1);
        DUE.is("report", x.state(1, 1), 21);
        DUE.is("authority", x.state(1, 2), 21);
        DUE.is("stands", x.measure(1, 1), 0);
        DUE.is("none on the way", x.state(1, 4), 0);
    }

    /**
     * "trains whose front is beyond the true rear of the one before them": authorities end 8 m short of
     * that, so the count stays 0 even for trains that press on as near as they can.
     */
    private static void frontNeverBeyondTheRearAhead() {
        MovingBlock x = new MovingBlock();
        for (int train = 0; train < 4; train++) {
            x.enter(20, 1000 - 28 * train);
            x.demand(train, train == 0 ? 0 : 1);
            x.drift(train, train % 2 == 0 ? 2 : -2);
        }
        DUE.is("8 m apart", x.count(2), 0);
        for (int i = 0; i < 30; i++) {
            x.demand(0, i % 3 == 0 ? 1 : -1);
            x.tick(8);
            DUE.is("beyond", x.count(2), 0);
        }
    }

    /** "An object is used for at most 512 calls": the clock's greatest value, with nothing else called. */
    private static void mostTicks() {
        MovingBlock x = new MovingBlock();
        for (int call = 1; call <= 512; call++) {
            DUE.is("call " + call, x.tick(8), 8 * call);
        }
    }

    /** Four trains at work up to the last call; the greatest stamps are those of the last tick. */
    private static void mostCalls() {
        MovingBlock x = Setup.trains(4);
        int calls = 4;
        for (int train = 0; train < 4; train++) {
            x.demand(train, 1);
            x.radio(train, 1 + train, 4 - train);
            calls += 2;
        }
        while (calls < 507) {
            x.tick(8);
            calls++;
        }
        int clock = 8 * (507 - 12);
        DUE.is("clock", x.count(0), clock);
        DUE.is("report of train 3", x.state(3, 1), clock - 3);
        DUE.is("authority of train 0", x.state(0, 2), clock - 3);
        DUE.is("on the way", x.count(3), 4 * 3);
        DUE.is("beyond", x.count(2), 0);
    }
}
