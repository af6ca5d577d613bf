/** The edges of what a controller sends: zones, holds, trains ahead, and the end of the line. */
public final class EdgesOfAuthorityTest {
    private static final int BORDER = 2048 * 8;
    private static final Due DUE = new Due("edges of authority");

    public static void main(String[] args) {
        zonesInWholeMetres();
        zoneOneEighthBelowTheBorder();
        zoneExactlyAtTheBorder();
        zoneOfTheReportedReach();
        zoneOneDown();
        holdsAreOpenAtFirst();
        everyHoldCounts();
        holdAtTheReach();
        holdOneEighthBehindTheReach();
        holdOneEighthBeforeTheReach();
        holdsAtTheEndsOfTheLine();
        holdAtTheBorder();
        noReportOfTheTrainAhead();
        everyTrainAheadCounts();
        eightMetresBehindTheReportedTail();
        authorityBelowZero();
        noReportNoAuthority();
        DUE.end();
    }

    /** "ZONE 0 is what lies below 2048, zone 1 the rest" */
    private static void zonesInWholeMetres() {
        MovingBlock below = Setup.oneTrain(20, 2047);
        below.controller(1, false);
        below.tick(1);
        DUE.is("2047 is of controller 0", below.state(0, 2), 1);
        MovingBlock at = Setup.oneTrain(20, 2048);
        at.controller(1, false);
        at.tick(1);
        DUE.is("2048 is of controller 1", at.state(0, 2), 0);
        at.controller(1, true);
        at.controller(0, false);
        at.tick(1);
        DUE.is("and of that alone", at.state(0, 2), 2);
    }

    /** By ways of 1, 2, 2 and 2 eighths; the drift -2 makes the reach the front. */
    private static void zoneOneEighthBelowTheBorder() {
        MovingBlock x = Setup.oneTrain(20, 2047);
        x.drift(0, -2);
        Setup.roll(x, 3);
        x.tick(3);
        DUE.is("reach", Setup.reach(x, 0), BORDER - 1);
        x.controller(1, false);
        x.tick(1);
        DUE.is("reported reach", x.measure(0, 5), BORDER - 1);
        DUE.is("controller 0 sends", x.state(0, 2), 5);
        DUE.is("up to zone 1", x.measure(0, 4), BORDER);
    }

    /** The drift -1 in the first tick puts the reach one eighth farther; the front is below the border. */
    private static void zoneExactlyAtTheBorder() {
        for (int down = 0; down <= 1; down++) {
            MovingBlock x = Setup.oneTrain(20, 2047);
            x.drift(0, -1);
            Setup.roll(x, 3);
            x.drift(0, -2);
            x.tick(3);
            DUE.is("front", x.measure(0, 0), BORDER - 1);
            DUE.is("reach", Setup.reach(x, 0), BORDER);
            x.controller(down, false);
            x.tick(1);
            DUE.is("reported reach", x.measure(0, 5), BORDER);
            DUE.is("only controller 1 would send, " + down + " is down", x.state(0, 2), down == 0 ? 5 : 4);
            DUE.is("to the end of the line", x.measure(0, 4), Setup.LINE_END);
        }
    }

    /** "the controller of the zone of its reported reach": not of where the train is by now. */
    private static void zoneOfTheReportedReach() {
        MovingBlock x = Setup.oneTrain(20, 2047);
        x.tick(1);
        x.radio(0, 0, 1);
        x.demand(0, 1);
        x.tick(4);
        DUE.is("front beyond the border", x.measure(0, 0), BORDER + 24);
        DUE.is("reported reach below it", x.measure(0, 5), BORDER - 8);
        x.controller(0, false);
        x.tick(1);
        DUE.is("controller 0 is down", x.state(0, 2), 5);
        x.controller(0, true);
        x.tick(1);
        DUE.is("controller 0 sends", x.state(0, 2), 7);
        x.controller(1, false);
        x.tick(1);
        DUE.is("2048, by the reported reach", x.measure(0, 4), BORDER);
        DUE.is("which is behind the train", x.state(0, 3), 1);
    }

    /** "2048, if its reported reach is below 2048 and controller 1 is DOWN" */
    private static void zoneOneDown() {
        MovingBlock x = Setup.oneTrain(20, 1000);
        x.tick(1);
        DUE.is("both up", x.measure(0, 4), Setup.LINE_END);
        x.controller(1, false);
        x.tick(1);
        DUE.is("controller 1 down", x.measure(0, 4), BORDER);
        x.controller(0, false);
        x.controller(1, true);
        x.tick(1);
        DUE.is("controller 0 down sends none", x.state(0, 2), 2);
        x.controller(0, true);
        x.tick(1);
        DUE.is("both up", x.measure(0, 4), Setup.LINE_END);
    }

    /** "closed or open (at first)": at first no hold counts. */
    private static void holdsAreOpenAtFirst() {
        MovingBlock x = Setup.oneTrain(20, 1000);
        x.tick(1);
        DUE.is("authority", x.measure(0, 4), Setup.LINE_END);
        for (int hold = 0; hold < 4; hold++) {
            x.hold(hold, 1100 + hold, false);
        }
        x.tick(1);
        DUE.is("open holds do not count", x.measure(0, 4), Setup.LINE_END);
    }

    private static void everyHoldCounts() {
        for (int hold = 0; hold < 4; hold++) {
            MovingBlock x = Setup.oneTrain(20, 1000);
            x.hold(hold, 1100, true);
            x.tick(1);
            DUE.is("hold " + hold, x.measure(0, 4), 8800);
            x.hold(hold, 1100, false);
            x.tick(1);
            DUE.is("opened", x.measure(0, 4), Setup.LINE_END);
        }
    }

    private static int authority(int front, int place) {
        MovingBlock x = Setup.oneTrain(20, front);
        x.hold(0, place, true);
        x.tick(1);
        return x.measure(0, 4);
    }

    /** "the places of the closed holds that are at least its reported reach" */
    private static void holdAtTheReach() {
        DUE.is("at the reach", authority(1000, 1000), 8000);
        DUE.is("1 m before it", authority(1000, 1001), 8008);
        DUE.is("1 m behind it", authority(1000, 999), Setup.LINE_END);
    }

    private static void holdOneEighthBehindTheReach() {
        MovingBlock x = Setup.oneTrain(20, 1000);
        x.drift(0, -2);
        Setup.roll(x, 1);
        DUE.is("reach", Setup.reach(x, 0), 8001);
        x.hold(0, 1000, true);
        x.tick(1);
        DUE.is("a hold behind the reach", x.measure(0, 4), Setup.LINE_END);
        DUE.is("no emergency", x.state(0, 3), 0);
    }

    private static void holdOneEighthBeforeTheReach() {
        MovingBlock x = Setup.oneTrain(20, 1000);
        x.drift(0, -2);
        Setup.roll(x, 1);
        x.tick(3);
        DUE.is("reach", Setup.reach(x, 0), 8007);
        x.hold(0, 1001, true);
        x.tick(1);
        DUE.is("a hold before the reach", x.measure(0, 4), 8008);
        DUE.is("2 squared is within 12 * 1", x.state(0, 3), 0);
        DUE.is("brakes", x.measure(0, 1), 0);
        DUE.is("stands at the hold", x.measure(0, 0), 8008);
        DUE.is("permitted", x.permitted(0), 0);
    }

    /** "(whole metres 0 .. 4096 ...)" */
    private static void holdsAtTheEndsOfTheLine() {
        DUE.is("at 0", authority(20, 0), Setup.LINE_END);
        DUE.is("at 20", authority(20, 20), 160);
        DUE.is("at 4096", authority(4000, 4096), Setup.LINE_END);
        DUE.is("at 4095", authority(4000, 4095), Setup.LINE_END - 8);
    }

    private static void holdAtTheBorder() {
        int[] places = {2047, 2048, 2049};
        int[] dues = {2047, 2048, 2048};
        for (int i = 0; i < places.length; i++) {
            MovingBlock x = Setup.oneTrain(20, 2000);
            x.hold(3, places[i], true);
            x.controller(1, false);
            x.tick(1);
            DUE.is("hold at " + places[i], x.measure(0, 4), 8 * dues[i]);
        }
    }

    /** "the last reported tail of that less 8 m, or 0 if none was taken" */
    private static void noReportOfTheTrainAhead() {
        MovingBlock x = Setup.trains(2);
        x.radio(0, 0, 1);
        x.tick(8);
        DUE.is("no report was taken", x.measure(1, 4), 0);
        DUE.is("which is no authority to stand there", x.permitted(1), -1);
        x.radio(0, 2, 1);
        x.tick(1);
        DUE.is("on the way is not taken", x.measure(1, 4), 0);
        x.tick(1);
        DUE.is("taken in this tick", x.measure(1, 4), 8 * (3100 - 20 - 8));
    }

    /** "for every train with a lower number": not only for the next one. */
    private static void everyTrainAheadCounts() {
        for (int silent = 0; silent < 3; silent++) {
            MovingBlock x = Setup.trains(4);
            x.radio(silent, 0, 1);
            x.tick(1);
            for (int train = 0; train < 4; train++) {
                int free = train == 0 ? Setup.LINE_END : 8 * (4100 - 1000 * train - 28);
                int due = train == silent ? -1 : train > silent ? 0 : free;
                DUE.is("train " + train + ", silent is " + silent, x.measure(train, 4), due);
            }
        }
    }

    /** The tail has the doubt; a train at the least distance has no room, one eighth more is some. */
    private static void eightMetresBehindTheReportedTail() {
        MovingBlock x = new MovingBlock();
        x.enter(50, 1000);
        x.enter(50, 942);
        x.tick(1);
        DUE.is("authority", x.measure(1, 4), 7536);
        DUE.is("no room", x.permitted(1), 0);
        x.drift(0, 2);
        x.demand(0, 1);
        x.demand(1, -1);
        x.tick(1);
        DUE.is("reported before it went", x.measure(0, 6), 7600);
        x.tick(1);
        DUE.is("reported tail, way 2, drift 2, doubt 2", x.measure(0, 6), 7602);
        DUE.is("authority", x.measure(1, 4), 7538);
        DUE.is("12 * 2 allows 4", x.permitted(1), 4);
    }

    /** The tail of a crawling train goes back with its doubt, and the authority with it, below 0 too. */
    private static void authorityBelowZero() {
        MovingBlock x = new MovingBlock();
        x.enter(20, 50);
        x.enter(20, 20);
        x.drift(0, -2);
        x.demand(1, -1);
        Setup.roll(x, 0);
        int tail = 240 + 1 - 2 - 2;
        while (tail >= 56) {
            x.tick(1);
            DUE.is("reported tail", x.measure(0, 6), tail);
            DUE.is("authority", x.measure(1, 4), tail - 64);
            DUE.is("permitted", x.permitted(1), tail - 64 >= 160 ? greatestEven(12 * (tail - 64 - 160)) : -1);
            DUE.is("it was taken, at -1 too", x.state(1, 2), x.count(0));
            tail -= 2;
        }
        DUE.is("it has come below 0 by way of -1", x.measure(1, 4), 57 - 64);
        DUE.is("the train that stands there comes into no emergency", x.state(1, 3), 0);
    }

    private static int greatestEven(int square) {
        int speed = 0;
        while ((speed + 2) * (speed + 2) <= square) {
            speed += 2;
        }
        return speed;
    }

    /** "For each train of which a report was ever taken" */
    private static void noReportNoAuthority() {
        MovingBlock x = Setup.oneTrain(20, 1000);
        x.radio(0, 0, 0);
        x.tick(2);
        DUE.is("two reports lost, no authority sent", x.count(4), 2);
        x.radio(0, 3, 0);
        x.tick(2);
        DUE.is("two reports on the way, no authority sent", x.count(4), 2);
        x.tick(1);
        DUE.is("the first report is taken, an authority sent", x.count(4), 3);
        x.radio(0, 0, 5);
        x.tick(3);
        DUE.is("a report once taken is enough", x.state(0, 4), 3);
    }
}
