/** The edges of what is safe and of an authority's age: just enough, and one eighth or one tick too little. */
public final class EdgesOfSafetyTest {
    private static final Due DUE = new Due("edges of safety");

    public static void main(String[] args) {
        ageOfFiveOrSixMoving();
        ageOfFiveOrSixStanding();
        ageOnArrival();
        oldAuthorityBrakesNoDemandMinusOne();
        missingAuthority();
        movingByTheAuthority();
        movingByTheLimitHere();
        movingByTheLimitAhead();
        behindTheTickByTheAuthority();
        behindTheTickWithAGrade();
        behindTheTickByTheLimitHere();
        behindTheTickByTheLimitAhead();
        behindTheTickWithoutTheDrift();
        demandMinusOneLooksNotAhead();
        permittedByTheAuthority();
        permittedByTheLimits();
        permittedByTheFarthestLimit();
        DUE.end();
    }

    /** Speed 4 * ticks behind this many ticks, with an authority of the given tick. */
    private static MovingBlock withAuthorityOf(int stamp, int age) {
        MovingBlock x = Setup.oneTrain(20, 1000);
        x.demand(0, 1);
        Due.ticks(x, stamp);
        x.radio(0, 1, 0);
        Due.ticks(x, age);
        return x;
    }

    /** "the stamp of its authority is more than 5 below the clock" */
    private static void ageOfFiveOrSixMoving() {
        for (int stamp = 1; stamp <= 6; stamp++) {
            MovingBlock x = withAuthorityOf(stamp, 5);
            DUE.is("stamp", x.state(0, 2), stamp);
            DUE.is("5 below the clock: pulls", x.measure(0, 1), 4 * (stamp + 5));
            DUE.is("no emergency", x.state(0, 0) + x.state(0, 3), 0);
            x.tick(1);
            DUE.is("6 below the clock: brakes by 12", x.measure(0, 1), 4 * (stamp + 5) - 12);
            DUE.is("emergency", x.state(0, 0), 1);
            DUE.is("once", x.state(0, 3), 1);
        }
    }

    /** "or its authority is missing or too old: -1": a standing train does not start, nor roll. */
    private static void ageOfFiveOrSixStanding() {
        for (int demand = 0; demand <= 1; demand++) {
            for (int age = 5; age <= 6; age++) {
                MovingBlock x = Setup.oneTrain(20, 1000);
                x.tick(1);
                x.radio(0, 1, 0);
                x.tick(age - 1);
                x.demand(0, demand);
                x.piece(1, 40, -1);
                x.tick(1);
                DUE.is("age " + age + ", demand " + demand, x.measure(0, 1), age == 6 ? 0 : 4 * demand + 2);
                DUE.is("no emergency", x.state(0, 3), 0);
            }
        }
    }

    /** By the delay 5 it is 4 below the clock when it arrives, so that one may be missing, and not two. */
    private static void ageOnArrival() {
        MovingBlock x = Setup.oneTrain(20, 1000);
        x.radio(0, 1, 5);
        x.demand(0, 1);
        x.tick(8);
        DUE.is("stamp", x.state(0, 2), 4);
        DUE.is("drives since tick 5", x.measure(0, 1), 16);
        x.radio(0, 1, 0);
        x.tick(4);
        DUE.is("those on the way arrive", x.state(0, 2), 8);
        DUE.is("speed", x.measure(0, 1), 32);
        x.tick(1);
        DUE.is("5 below the clock", x.measure(0, 1), 36);
        x.tick(1);
        DUE.is("6 below the clock", x.measure(0, 1), 24);
        DUE.is("emergency", x.state(0, 0), 1);
    }

    /** A moving train comes into emergency by the age, whatever its demand. */
    private static void oldAuthorityBrakesNoDemandMinusOne() {
        MovingBlock x = Setup.oneTrain(20, 1000);
        x.demand(0, 1);
        Due.ticks(x, 20);
        x.radio(0, 1, 0);
        x.demand(0, -1);
        x.tick(5);
        DUE.is("brakes by 8", x.measure(0, 1), 80 - 40);
        x.tick(1);
        DUE.is("brakes by 12", x.measure(0, 1), 28);
        DUE.is("emergency", x.state(0, 0), 1);
    }

    private static void missingAuthority() {
        for (int demand = -1; demand <= 1; demand++) {
            MovingBlock x = Setup.oneTrain(20, 1000);
            x.radio(0, 1, 0);
            x.demand(0, demand);
            x.piece(1, 40, -1);
            x.tick(8);
            DUE.is("does not start", x.measure(0, 1), 0);
            DUE.is("front", x.measure(0, 0), 8000);
            DUE.is("no emergency", x.state(0, 3), 0);
            DUE.is("permitted", x.permitted(0), -1);
        }
    }

    /** Behind so many pulls; the drift of the last tick puts the reach up to 4 eighths beyond the front. */
    private static MovingBlock pulled(int front, int ticks, int lastDrift) {
        MovingBlock x = Setup.oneTrain(20, front);
        x.demand(0, 1);
        x.drift(0, -2);
        Due.ticks(x, ticks - 1);
        Setup.ticksWithDrifts(x, lastDrift);
        DUE.is("speed", x.measure(0, 1), 4 * ticks);
        DUE.is("reach", Setup.reach(x, 0), 8 * front + 2 * ticks * ticks + lastDrift + 2);
        return x;
    }

    private static void brakesOrEmergency(String name, MovingBlock x, boolean safe) {
        int before = x.measure(0, 1);
        x.demand(0, -1);
        x.tick(1);
        DUE.is(name + ": speed", x.measure(0, 1), Math.max(0, before - (safe ? 8 : 12)));
        DUE.is(name + ": emergencies", x.state(0, 3), safe ? 0 : 1);
    }

    /** "v * v is at most 1.5 * (authority - r)": 24 squared is 12 * 48. */
    private static void movingByTheAuthority() {
        for (int drift = -2; drift <= 1; drift++) {
            MovingBlock x = pulled(1000, 6, drift);
            x.hold(0, 1015, true);
            brakesOrEmergency("48 eighths less " + (drift + 2), x, drift == -2);
        }
    }

    /** "v is at most the limit of every piece that lies anywhere from tail to reach" */
    private static void movingByTheLimitHere() {
        MovingBlock x = pulled(1100, 6, 0);
        x.piece(2, 3, 0);
        brakesOrEmergency("24 by the limit 24", x, true);
        MovingBlock y = Setup.oneTrain(20, 1100);
        Setup.roll(y, 2);
        y.demand(0, 1);
        y.tick(6);
        DUE.is("speed", y.measure(0, 1), 26);
        y.piece(2, 3, 0);
        brakesOrEmergency("26 by the limit 24", y, false);
    }

    /** "v * v is at most l * l + 1.5 * (s - r)": 16 squared is 8 squared + 12 * 16. */
    private static void movingByTheLimitAhead() {
        for (int piece = 1; piece <= 7; piece++) {
            for (int drift = -2; drift <= -1; drift++) {
                MovingBlock x = pulled(512 * piece - 6, 4, drift);
                x.piece(piece, 1, 0);
                brakesOrEmergency("before " + piece + ", drift " + drift, x, drift == -2);
            }
        }
    }

    private static void pullsOrBrakes(String name, MovingBlock x, boolean safe) {
        int before = x.measure(0, 1);
        x.tick(1);
        DUE.is(name + ": speed", x.measure(0, 1), safe ? before + 4 : Math.max(0, before - 8));
        DUE.is(name + ": no emergency", x.state(0, 3), 0);
    }

    /** 12 squared is 12 * 12: 24 eighths less the way 10 and the doubt 2. */
    private static void behindTheTickByTheAuthority() {
        for (int drift = -2; drift <= 0; drift++) {
            MovingBlock x = pulled(1000, 2, drift);
            x.hold(0, 1004, true);
            pullsOrBrakes("24 eighths less " + (drift + 2), x, drift == -2);
        }
    }

    /** Downhill from 0: 6 squared is 12 * 3: 8 eighths less the way 3 and the doubt 2. */
    private static void behindTheTickWithAGrade() {
        for (int last = 1; last <= 2; last++) {
            MovingBlock x = Setup.oneTrain(20, 1000);
            x.drift(0, 1);
            Setup.roll(x, 1);
            x.demand(0, -1);
            Setup.ticksWithDrifts(x, last);
            DUE.is("stands", x.measure(0, 1), 0);
            DUE.is("reach", Setup.reach(x, 0), 8007 + last);
            x.hold(0, 1002, true);
            x.piece(1, 40, -1);
            x.demand(0, 1);
            x.tick(1);
            DUE.is("room " + (9 - last), x.measure(0, 1), last == 1 ? 6 : 0);
        }
    }

    /** The speed behind the tick may be the limit, and no quarter more. */
    private static void behindTheTickByTheLimitHere() {
        MovingBlock x = pulled(1100, 5, 0);
        x.piece(2, 3, 0);
        pullsOrBrakes("to 24 by the limit 24", x, true);
        pullsOrBrakes("to 28 by the limit 24", x, false);
        x.piece(2, 2, 0);
        x.demand(0, 0);
        x.tick(1);
        DUE.is("demand 0 keeps 16 by the limit 16", x.measure(0, 1), 16);
        x.piece(2, 2, -1);
        x.tick(1);
        DUE.is("downhill it would be 18, so it brakes", x.measure(0, 1), 16 - 8 + 2);
        DUE.is("no emergency", x.state(0, 3), 0);
    }

    /** 20 squared is 8 squared + 12 * 28: 48 eighths less the way 18 and the doubt 2. */
    private static void behindTheTickByTheLimitAhead() {
        for (int piece = 1; piece <= 7; piece++) {
            for (int drift = -2; drift <= -1; drift++) {
                MovingBlock x = pulled(512 * piece - 10, 4, drift);
                x.piece(piece, 1, 0);
                pullsOrBrakes("before " + piece + ", drift " + drift, x, drift == -2);
            }
        }
    }

    /** The drift of the coming tick is not in the state behind it. */
    private static void behindTheTickWithoutTheDrift() {
        for (int drift = -2; drift <= 2; drift++) {
            MovingBlock x = pulled(1000, 2, -2);
            x.hold(0, 1004, true);
            x.drift(0, drift);
            pullsOrBrakes("drift " + drift, x, true);
        }
    }

    /** "but if its demand is not -1": that brakes by 8 in any case, safe or not. */
    private static void demandMinusOneLooksNotAhead() {
        MovingBlock x = pulled(1000, 6, -2);
        x.demand(0, -1);
        x.tick(1);
        DUE.is("safe", x.measure(0, 1), 16);
        x.piece(1, 40, -1);
        x.tick(1);
        DUE.is("downhill", x.measure(0, 1), 10);
        x.piece(1, 40, 1);
        x.tick(1);
        DUE.is("uphill", x.measure(0, 1), 0);
    }

    /** "-1 if not even 0 is": at the authority 0 is safe, one eighth beyond it nothing is. */
    private static void permittedByTheAuthority() {
        int[] dues = {4, 2, 0, -1, -1};
        for (int drift = -2; drift <= 2; drift++) {
            MovingBlock x = Setup.oneTrain(20, 1000);
            x.drift(0, -2);
            Setup.roll(x, 1);
            x.tick(2);
            x.hold(0, 1001, true);
            x.demand(0, -1);
            Setup.ticksWithDrifts(x, drift);
            DUE.is("stands", x.measure(0, 1), 0);
            DUE.is("room", x.measure(0, 4) - Setup.reach(x, 0), -drift);
            DUE.is("permitted with the room " + -drift, x.permitted(0), dues[drift + 2]);
        }
    }

    /** "at most 40 m/s": 102400 needs 8534 eighths before the authority, so 1067 m, and 40 as the limit. */
    private static void permittedByTheLimits() {
        MovingBlock x = Setup.oneTrain(20, 2600);
        x.hold(0, 3667, true);
        x.tick(1);
        DUE.is("1067 m", x.permitted(0), 320);
        x.hold(0, 3666, true);
        x.tick(1);
        DUE.is("1066 m", x.permitted(0), 318);
        for (int limit = 1; limit <= 39; limit++) {
            x.piece(5, limit, 0);
            DUE.is("limit " + limit, x.permitted(0), 8 * limit);
        }
        x.piece(5, 40, 0);
        DUE.is("limit 40", x.permitted(0), 318);
    }

    /** "for every piece beyond the one of the reach": 320 squared is 8 squared + 12 * 8528, so 1066 m. */
    private static void permittedByTheFarthestLimit() {
        for (int piece = 3; piece <= 7; piece++) {
            MovingBlock x = Setup.oneTrain(20, 512 * piece - 1066);
            x.tick(1);
            x.piece(piece, 1, 0);
            DUE.is("1066 m before " + piece, x.permitted(0), 320);
            MovingBlock y = Setup.oneTrain(20, 512 * piece - 1065);
            y.tick(1);
            DUE.is("no limit in " + piece, y.permitted(0), 320);
            y.piece(piece, 1, 0);
            DUE.is("1065 m before " + piece, y.permitted(0), 318);
        }
    }
}
