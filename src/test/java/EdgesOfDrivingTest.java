/** The edges of a tick's last step: speed and way 0, the end of an emergency, and each pull on each grade. */
public final class EdgesOfDrivingTest {
    private static final Due DUE = new Due("edges of driving");

    public static void main(String[] args) {
        pullsByDemandAndGrade();
        pullsInEmergency();
        speedNotBelowZero();
        wayIsTheMean();
        noWayNoDoubt();
        leastWayHasDoubt();
        rollsNotBackUphill();
        emergencyEndsAtSpeedZero();
        emergencyEndsInItsFirstTick();
        emergencyIsNotEndedByGoodNews();
        standingTrainComesIntoNone();
        reportIsOfBeforeTheWay();
        trainsDriveByWhatWasReported();
        DUE.end();
    }

    /** "The PULL is ... 0.5, 0 or -1 by the demand 1, 0, -1", "less a quarter of the grade" */
    private static void pullsByDemandAndGrade() {
        int[] pulls = {-8, 0, 4};
        for (int demand = -1; demand <= 1; demand++) {
            for (int grade = -1; grade <= 1; grade++) {
                MovingBlock x = Setup.oneTrain(20, 1000);
                x.demand(0, 1);
                x.tick(5);
                x.demand(0, demand);
                x.piece(1, 40, grade);
                x.tick(1);
                int due = 20 + pulls[demand + 1] - 2 * grade;
                DUE.is("demand " + demand + ", grade " + grade, x.measure(0, 1), due);
                DUE.is("front", x.measure(0, 0), 8050 + (20 + due) / 2);
            }
        }
    }

    /** "The PULL is -1.5 in emergency", whatever the demand. */
    private static void pullsInEmergency() {
        for (int demand = -1; demand <= 1; demand++) {
            for (int grade = -1; grade <= 1; grade++) {
                MovingBlock x = Setup.oneTrain(20, 1000);
                x.demand(0, 1);
                x.tick(8);
                x.demand(0, demand);
                x.piece(1, 3, grade);
                x.tick(1);
                DUE.is("demand " + demand + ", grade " + grade, x.measure(0, 1), 32 - 12 - 2 * grade);
                DUE.is("emergency", x.state(0, 0), 1);
            }
        }
    }

    /** "but not below 0": from 2, 4, 6, 8 and 10 eighths a brake by 8. */
    private static void speedNotBelowZero() {
        int[] dues = {0, 0, 0, 0, 2};
        for (int i = 0; i < dues.length; i++) {
            int speed = 2 * i + 2;
            MovingBlock x = Setup.oneTrain(20, 1000);
            x.demand(0, 1);
            x.tick(1);
            x.piece(1, 40, -1);
            x.demand(0, 0);
            Due.ticks(x, i);
            x.piece(1, 40, 1);
            x.tick(1);
            x.piece(1, 40, 0);
            DUE.is("speed before", x.measure(0, 1), speed);
            int front = x.measure(0, 0);
            x.demand(0, -1);
            x.tick(1);
            DUE.is("speed behind", x.measure(0, 1), dues[i]);
            DUE.is("way", x.measure(0, 0) - front, (speed + dues[i]) / 2);
            x.tick(4);
            DUE.is("stays at 0", x.measure(0, 1), 0);
        }
    }

    /** "the WAY is the mean of the speeds before and behind" */
    private static void wayIsTheMean() {
        MovingBlock x = Setup.oneTrain(20, 1000);
        x.demand(0, 1);
        int front = 8000;
        for (int tick = 1; tick <= 10; tick++) {
            x.tick(1);
            front += 4 * tick - 2;
            DUE.is("front", x.measure(0, 0), front);
            DUE.is("true rear", x.measure(0, 7), front - 160);
        }
        x.demand(0, 0);
        x.tick(1);
        DUE.is("at one speed", x.measure(0, 0), front + 40);
    }

    /** "If the way is not 0, the estimate goes on by the way and drift / 8, and the doubt grows by 1/4." */
    private static void noWayNoDoubt() {
        for (int drift = -2; drift <= 2; drift++) {
            MovingBlock x = Setup.oneTrain(20, 1000);
            x.drift(0, drift);
            x.demand(0, -1);
            Due.ticks(x, 40);
            DUE.is("estimate", x.measure(0, 2), 8000);
            DUE.is("doubt", x.measure(0, 3), 0);
            DUE.is("front", x.measure(0, 0), 8000);
        }
    }

    private static void leastWayHasDoubt() {
        for (int drift = -2; drift <= 2; drift++) {
            MovingBlock x = Setup.oneTrain(20, 1000);
            x.drift(0, drift);
            Setup.roll(x, 1);
            DUE.is("front", x.measure(0, 0), 8001);
            DUE.is("estimate", x.measure(0, 2), 8001 + drift);
            DUE.is("doubt", x.measure(0, 3), 2);
            x.demand(0, -1);
            x.tick(1);
            DUE.is("the tick in which it stops has a way too", x.measure(0, 0), 8002);
            DUE.is("estimate", x.measure(0, 2), 8002 + 2 * drift);
            DUE.is("doubt", x.measure(0, 3), 4);
            x.tick(1);
            DUE.is("the next one has none", x.measure(0, 2), 8002 + 2 * drift);
            DUE.is("doubt", x.measure(0, 3), 4);
        }
    }

    private static void rollsNotBackUphill() {
        MovingBlock x = Setup.oneTrain(20, 1000);
        x.piece(1, 40, 1);
        x.tick(8);
        DUE.is("speed", x.measure(0, 1), 0);
        DUE.is("front", x.measure(0, 0), 8000);
        x.demand(0, 1);
        x.tick(1);
        DUE.is("pulls 4 less 2", x.measure(0, 1), 2);
        x.demand(0, 0);
        x.tick(1);
        DUE.is("speed", x.measure(0, 1), 0);
        DUE.is("front", x.measure(0, 0), 8002);
    }

    /** "If the speed is 0 behind this, it is no longer in emergency." */
    private static void emergencyEndsAtSpeedZero() {
        MovingBlock x = Setup.oneTrain(20, 1000);
        x.demand(0, 1);
        x.tick(7);
        x.piece(1, 1, 1);
        x.tick(1);
        DUE.is("28 less 14", x.measure(0, 1), 14);
        DUE.is("in emergency", x.state(0, 0), 1);
        x.piece(1, 1, 0);
        x.tick(1);
        DUE.is("14 less 12", x.measure(0, 1), 2);
        DUE.is("in emergency at the least speed", x.state(0, 0), 1);
        x.tick(1);
        DUE.is("stands", x.measure(0, 1), 0);
        DUE.is("in none", x.state(0, 0), 0);
        DUE.is("it came into one once", x.state(0, 3), 1);
        x.tick(1);
        DUE.is("it pulls again", x.measure(0, 1), 4);
        DUE.is("in none", x.state(0, 0), 0);
    }

    private static void emergencyEndsInItsFirstTick() {
        MovingBlock x = Setup.oneTrain(20, 1000);
        x.demand(0, 1);
        x.tick(3);
        x.piece(1, 1, 0);
        x.tick(1);
        DUE.is("12 less 12", x.measure(0, 1), 0);
        DUE.is("is in none behind the tick", x.state(0, 0), 0);
        DUE.is("but came into one", x.state(0, 3), 1);
    }

    /** "from now on": a safe state, a young authority or another demand do not end it. */
    private static void emergencyIsNotEndedByGoodNews() {
        MovingBlock x = Setup.oneTrain(20, 1000);
        x.demand(0, 1);
        Due.ticks(x, 16);
        x.radio(0, 1, 0);
        x.tick(6);
        DUE.is("speed", x.measure(0, 1), 84 - 12);
        DUE.is("in emergency", x.state(0, 0), 1);
        x.radio(0, 1, 1);
        for (int demand = -1; demand <= 1; demand++) {
            int before = x.measure(0, 1);
            x.demand(0, demand);
            x.tick(1);
            DUE.is("brakes by 12", x.measure(0, 1), before - 12);
            DUE.is("in emergency", x.state(0, 0), 1);
            DUE.is("it would be safe", x.permitted(0), 320);
        }
        DUE.is("it came into one once", x.state(0, 3), 1);
    }

    /** "If it is not in emergency, but moves": not even an unsafe state brings a standing train into one. */
    private static void standingTrainComesIntoNone() {
        MovingBlock x = Setup.oneTrain(20, 1000);
        x.tick(8);
        DUE.is("without movement", x.state(0, 3), 0);
        MovingBlock y = Setup.trains(2);
        y.radio(0, 0, 0);
        y.tick(8);
        DUE.is("authority 0", y.measure(1, 4), 0);
        DUE.is("not safe", y.permitted(1), -1);
        DUE.is("no emergency by it", y.state(1, 0) + y.state(1, 3), 0);
        DUE.is("no emergency without an authority", y.state(0, 0) + y.state(0, 3), 0);
    }

    /** Step 1 comes before step 5: what is reported in a tick is where the train was before its way. */
    private static void reportIsOfBeforeTheWay() {
        MovingBlock x = Setup.oneTrain(20, 1000);
        x.demand(0, 1);
        x.tick(1);
        DUE.is("reported reach", x.measure(0, 5), 8000);
        DUE.is("reach", Setup.reach(x, 0), 8004);
        x.tick(1);
        DUE.is("reported reach", x.measure(0, 5), 8004);
        DUE.is("reported tail", x.measure(0, 6), 7840);
    }

    /** All reports of a tick are taken before any authority is sent, and all are sent before any train drives. */
    private static void trainsDriveByWhatWasReported() {
        MovingBlock x = Setup.trains(4);
        for (int train = 0; train < 4; train++) {
            x.demand(train, 1);
            x.drift(train, 2);
        }
        x.tick(3);
        for (int train = 1; train < 4; train++) {
            int start = 8 * (3100 - 1000 * (train - 1) - 20);
            DUE.is("reported tail of " + (train - 1), x.measure(train - 1, 6), start + 8);
            DUE.is("authority of " + train, x.measure(train, 4), start + 8 - 64);
            DUE.is("speed of " + train, x.measure(train, 1), 12);
        }
    }
}
