public final class Promise09TickTest {
    private static final Due DUE = new Due("tick");

    public static void main(String[] args) {
        ranges();
        severalAreOneByOne();
        authorityMayShrink();
        ageOfTheAuthority();
        emergencyBrakes();
        emergencyByLimit();
        standingTrainHasNoEmergency();
        onBoardUnitBrakes();
        safeByExactlyEnough();
        tailLeavesASlowPiece();
        followersAuthority();
        endOfTheLine();
        DUE.end();
    }

    private static void ranges() {
        MovingBlock x = new MovingBlock();
        DUE.is("tick(1)", x.tick(1), 1);
        DUE.is("tick(8)", x.tick(8), 9);
        DUE.refused("tick(0)", x.tick(0));
        DUE.refused("tick(9)", x.tick(9));
        DUE.refused("tick(-1)", x.tick(-1));
        DUE.refused("tick(MAX)", x.tick(Integer.MAX_VALUE));
        DUE.refused("tick(MIN)", x.tick(Integer.MIN_VALUE));
        DUE.is("the clock", x.count(0), 9);
        DUE.is("tick(2)", x.tick(2), 11);
    }

    private static void severalAreOneByOne() {
        MovingBlock x = new MovingBlock();
        MovingBlock y = new MovingBlock();
        x.enter(50, 450);
        y.enter(50, 450);
        x.demand(0, 1);
        y.demand(0, 1);
        x.radio(0, 2, 3);
        y.radio(0, 2, 3);
        for (int round = 0; round < 20; round++) {
            x.tick(8);
            for (int i = 0; i < 8; i++) {
                y.tick(1);
            }
            for (int what = 0; what <= 7; what++) {
                DUE.is("measure(0, " + what + ")", x.measure(0, what), y.measure(0, what));
            }
        }
    }

    private static void authorityMayShrink() {
        MovingBlock x = new MovingBlock();
        x.enter(50, 1000);
        x.tick(1);
        x.hold(0, 1000, true);
        x.tick(1);
        DUE.is("less", x.measure(0, 4), 8000);
        x.hold(0, 1001, true);
        x.tick(1);
        DUE.is("more", x.measure(0, 4), 8008);
    }

    private static void ageOfTheAuthority() {
        MovingBlock x = new MovingBlock();
        x.enter(50, 1000);
        x.demand(0, 1);
        x.tick(1);
        x.radio(0, 1, 0);
        x.tick(5);
        DUE.is("5 below the clock is fresh", x.measure(0, 1), 24);
        DUE.is("no emergency", x.state(0, 0), 0);
        x.tick(1);
        DUE.is("6 below the clock is too old", x.measure(0, 1), 12);
        DUE.is("emergency", x.state(0, 0), 1);
        DUE.is("once", x.state(0, 3), 1);
        x.tick(1);
        DUE.is("stands", x.measure(0, 1), 0);
        DUE.is("no longer in emergency", x.state(0, 0), 0);
        x.tick(3);
        DUE.is("too old to start", x.measure(0, 1), 0);
        DUE.is("a standing train comes into none", x.state(0, 3), 1);
        x.radio(0, 1, 1);
        x.tick(1);
        DUE.is("starts again", x.measure(0, 1), 4);
    }

    /** The demand and a new authority do not end an emergency; standing does. */
    private static void emergencyBrakes() {
        MovingBlock x = new MovingBlock();
        x.enter(50, 1000);
        x.demand(0, 1);
        x.tick(8);
        DUE.is("speed", x.measure(0, 1), 32);
        DUE.is("front", x.measure(0, 0), 8128);
        x.hold(0, 1019, true);
        x.tick(1);
        DUE.is("authority", x.measure(0, 4), 8152);
        DUE.is("emergency", x.state(0, 0), 1);
        DUE.is("speed", x.measure(0, 1), 20);
        DUE.is("front", x.measure(0, 0), 8154);
        DUE.is("permitted", x.permitted(0), -1);
        x.hold(0, 1019, false);
        x.piece(1, 40, -1);
        x.tick(1);
        DUE.is("grade counts in emergency too", x.measure(0, 1), 10);
        DUE.is("still in emergency", x.state(0, 0), 1);
        x.tick(1);
        DUE.is("stands", x.measure(0, 1), 0);
        DUE.is("no longer", x.state(0, 0), 0);
        DUE.is("once", x.state(0, 3), 1);
        x.tick(1);
        DUE.is("goes on", x.measure(0, 1), 6);
    }

    private static void emergencyByLimit() {
        MovingBlock x = new MovingBlock();
        x.enter(50, 1100);
        x.demand(0, 1);
        x.tick(6);
        x.piece(2, 3, 0);
        x.tick(1);
        DUE.is("24 is at the limit 3, demand 1 would exceed it", x.measure(0, 1), 16);
        DUE.is("no emergency", x.state(0, 3), 0);
        x.piece(2, 1, 0);
        x.tick(1);
        DUE.is("16 is beyond the limit 1", x.measure(0, 1), 4);
        DUE.is("emergency", x.state(0, 3), 1);
    }

    private static void standingTrainHasNoEmergency() {
        MovingBlock x = new MovingBlock();
        x.enter(50, 1000);
        x.enter(50, 900);
        x.radio(0, 0, 1);
        x.demand(1, 1);
        x.tick(8);
        DUE.is("authority 0 without the report ahead", x.measure(1, 4), 0);
        DUE.is("permitted", x.permitted(1), -1);
        DUE.is("stands", x.measure(1, 1), 0);
        DUE.is("no emergency", x.state(1, 3), 0);
        DUE.is("no authority for train 0", x.measure(0, 4), -1);
        x.piece(1, 40, -1);
        x.tick(8);
        DUE.is("held by the brake downhill", x.measure(0, 1) + x.measure(1, 1), 0);
    }

    /** Limit 2: speeds up to 16 eighths, then brakes by 8 whenever a further pull would exceed it. */
    private static void onBoardUnitBrakes() {
        MovingBlock x = new MovingBlock();
        x.enter(50, 1100);
        x.piece(2, 2, 0);
        x.demand(0, 1);
        x.tick(4);
        DUE.is("at the limit", x.measure(0, 1), 16);
        x.tick(1);
        DUE.is("braked", x.measure(0, 1), 8);
        x.tick(1);
        DUE.is("pulled", x.measure(0, 1), 12);
        x.demand(0, 0);
        x.tick(4);
        DUE.is("demand 0 keeps it", x.measure(0, 1), 12);
        x.piece(2, 1, 0);
        x.demand(0, -1);
        x.tick(1);
        DUE.is("emergency is stronger than demand -1", x.measure(0, 1), 0);
        DUE.is("it came into emergency", x.state(0, 3), 1);
        DUE.is("and stands", x.state(0, 0), 0);
    }

    /** Start: speed 4, way 2, doubt 2 more: 16 needs 12 * (authority - reach - 4), so 6 eighths. */
    private static void safeByExactlyEnough() {
        MovingBlock x = new MovingBlock();
        x.enter(50, 1000);
        x.hold(0, 1000, true);
        x.demand(0, 1);
        x.tick(1);
        DUE.is("no room", x.measure(0, 1), 0);
        x.hold(0, 1001, true);
        x.tick(1);
        DUE.is("8 eighths are enough to start", x.measure(0, 1), 4);
        DUE.is("way", x.measure(0, 0), 8002);
        DUE.is("12 * 4 is 48, so 6", x.permitted(0), 6);
        x.tick(1);
        DUE.is("and not enough to go on", x.measure(0, 1), 0);
        DUE.is("no emergency", x.state(0, 3), 0);
    }

    /** The state behind the tick counts: its tail is moved on by the way, less 2 eighths of doubt. */
    private static void tailLeavesASlowPiece() {
        MovingBlock x = new MovingBlock();
        x.enter(100, 611);
        x.piece(0, 1, 0);
        x.demand(0, 1);
        x.tick(2);
        DUE.is("at the limit 1", x.measure(0, 1), 8);
        x.tick(1);
        DUE.is("tail comes to 4092 + 10 - 2", x.measure(0, 1), 12);
        MovingBlock y = new MovingBlock();
        y.enter(100, 610);
        y.piece(0, 1, 0);
        y.demand(0, 1);
        y.tick(2);
        DUE.is("at the limit 1", y.measure(0, 1), 8);
        y.tick(1);
        DUE.is("tail would come to 4084 + 10 - 2", y.measure(0, 1), 0);
        DUE.is("no emergency", x.state(0, 3) + y.state(0, 3), 0);
    }

    private static void followersAuthority() {
        MovingBlock x = new MovingBlock();
        x.enter(100, 2000);
        x.enter(100, 1500);
        x.enter(100, 1000);
        x.tick(1);
        DUE.is("train 0", x.measure(0, 4), 32768);
        DUE.is("behind train 0", x.measure(1, 4), 15136);
        DUE.is("behind train 1", x.measure(2, 4), 11136);
        x.radio(1, 0, 1);
        x.demand(1, 1);
        x.tick(2);
        DUE.is("the last report counts", x.measure(2, 4), 11136);
        x.radio(1, 1, 1);
        x.tick(1);
        DUE.is("reported tail has the doubt", x.measure(1, 6), 11200 + 8 - 4);
        DUE.is("reported reach has the doubt", x.measure(1, 5), 12000 + 8 + 4);
        DUE.is("behind the reported tail", x.measure(2, 4), 11140);
        MovingBlock y = new MovingBlock();
        y.enter(100, 2000);
        y.enter(100, 1500);
        y.enter(100, 1000);
        y.radio(0, 5, 1);
        y.tick(1);
        DUE.is("a train farther ahead is unknown", y.measure(2, 4), 0);
        y.tick(4);
        DUE.is("all are known", y.measure(2, 4), 11136);
    }

    /** The train crawls up to the end with a reach beyond it, by a drift that it does not know. */
    private static void endOfTheLine() {
        MovingBlock x = new MovingBlock();
        x.enter(20, 4000);
        x.demand(0, 1);
        Due.ticks(x, 80);
        DUE.is("stops before the end", x.measure(0, 0) < 32768 ? 1 : 0, 1);
        DUE.is("no emergency", x.state(0, 3), 0);
        MovingBlock y = new MovingBlock();
        y.enter(20, 4000);
        y.demand(0, 1);
        y.drift(0, 2);
        Due.ticks(y, 80);
        DUE.is("stands", y.measure(0, 1), 0);
        DUE.is("reach near the end or beyond", y.measure(0, 2) + y.measure(0, 3) > 32750 ? 1 : 0, 1);
        DUE.is("piece", y.state(0, 5), 7);
        DUE.is("stays on the line", y.count(1), 1);
    }
}
