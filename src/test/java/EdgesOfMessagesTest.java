/** The edges of the radio: the delays 0, 1 and 5, what comes together or too late, and stamps. */
public final class EdgesOfMessagesTest {
    private static final int REPORT = 1;
    private static final int AUTHORITY = 2;
    private static final Due DUE = new Due("edges of messages");

    public static void main(String[] args) {
        delaysAreOneAtFirst();
        for (int delay = 1; delay <= 5; delay++) {
            oneReport(delay);
            oneAuthority(delay);
        }
        delayZeroLosesReports();
        delayZeroLosesAuthorities();
        fiveReportsAtOnce();
        fiveAuthoritiesAtOnce();
        olderReportIsNotTaken();
        olderAuthorityIsNotTaken();
        kindsAndTrainsHaveStampsOfTheirOwn();
        whatWasSentIsWhatArrives();
        mostThatCanBeOnTheWay();
        noneOnTheWayWithoutDelay();
        DUE.end();
    }

    /** "DELAYS up and down 0 .. 5 (1 at first)" */
    private static void delaysAreOneAtFirst() {
        MovingBlock x = Setup.oneTrain(20, 1000);
        x.tick(1);
        DUE.is("report of the first tick", x.state(0, REPORT), 1);
        DUE.is("authority of the first tick", x.state(0, AUTHORITY), 1);
        DUE.is("none on the way", x.count(3), 0);
    }

    /** "else it ARRIVES in the tick d - 1 ticks later": in that tick, not before, and never again. */
    private static void oneReport(int delay) {
        MovingBlock x = Setup.oneTrain(20, 1000);
        x.radio(0, delay, 0);
        for (int later = 0; later < 6; later++) {
            x.tick(1);
            x.radio(0, 0, 0);
            boolean arrived = later >= delay - 1;
            DUE.is("delay " + delay + ", " + later + " later: stamp", x.state(0, REPORT), arrived ? 1 : 0);
            DUE.is("reach", x.measure(0, 5), arrived ? 8000 : -1);
            DUE.is("tail", x.measure(0, 6), arrived ? 7840 : -1);
            DUE.is("on the way", x.state(0, 4), arrived ? 0 : 1);
            int reportsLost = later;
            int authoritiesLost = Math.max(0, later - delay + 2);
            DUE.is("lost", x.count(4), reportsLost + authoritiesLost);
        }
        DUE.is("all that arrived was taken", x.count(5), 0);
    }

    private static void oneAuthority(int delay) {
        MovingBlock x = Setup.oneTrain(20, 1000);
        x.radio(0, 1, delay);
        for (int later = 0; later < 6; later++) {
            x.tick(1);
            x.radio(0, 1, 0);
            boolean arrived = later >= delay - 1;
            DUE.is("delay " + delay + ", " + later + " later: stamp", x.state(0, AUTHORITY), arrived ? 1 : 0);
            DUE.is("authority", x.measure(0, 4), arrived ? Setup.LINE_END : -1);
            DUE.is("on the way", x.state(0, 4), arrived ? 0 : 1);
            DUE.is("lost", x.count(4), later);
        }
        DUE.is("all that arrived was taken", x.count(5), 0);
    }

    /** "is lost if d is 0" */
    private static void delayZeroLosesReports() {
        MovingBlock x = Setup.oneTrain(20, 1000);
        x.radio(0, 0, 1);
        x.tick(8);
        DUE.is("lost", x.count(4), 8);
        DUE.is("none on the way", x.count(3), 0);
        DUE.is("none arrived", x.count(5), 0);
        DUE.is("no stamp", x.state(0, REPORT), 0);
        DUE.is("no reach", x.measure(0, 5), -1);
        DUE.is("no tail", x.measure(0, 6), -1);
    }

    private static void delayZeroLosesAuthorities() {
        MovingBlock x = Setup.oneTrain(20, 1000);
        x.radio(0, 1, 0);
        x.tick(8);
        DUE.is("lost", x.count(4), 8);
        DUE.is("none on the way", x.count(3), 0);
        DUE.is("none arrived", x.count(5), 0);
        DUE.is("no stamp", x.state(0, AUTHORITY), 0);
        DUE.is("no authority", x.measure(0, 4), -1);
    }

    /** "What arrives in one tick comes in the order in which it was sent": so all of them are taken. */
    private static void fiveReportsAtOnce() {
        MovingBlock x = Setup.oneTrain(20, 1000);
        for (int delay = 5; delay >= 2; delay--) {
            x.radio(0, delay, 1);
            x.tick(1);
            DUE.is("on the way", x.count(3), 6 - delay);
        }
        DUE.is("none taken yet", x.state(0, REPORT), 0);
        x.radio(0, 1, 1);
        x.tick(1);
        DUE.is("the last one sent counts", x.state(0, REPORT), 5);
        DUE.is("none on the way", x.count(3), 0);
        DUE.is("all were taken", x.count(5), 0);
    }

    /** Each has a place of its own, so that what is kept is seen to be the last one sent. */
    private static void fiveAuthoritiesAtOnce() {
        MovingBlock x = Setup.oneTrain(20, 1000);
        for (int delay = 5; delay >= 1; delay--) {
            DUE.is("none taken yet", x.state(0, AUTHORITY), 0);
            x.radio(0, 1, delay);
            x.hold(0, 2000 + (delay % 2) * 100 + delay, true);
            x.tick(1);
        }
        DUE.is("the last one sent counts", x.state(0, AUTHORITY), 5);
        DUE.is("it is the place at that time", x.measure(0, 4), 8 * 2101);
        DUE.is("none on the way", x.count(3), 0);
        DUE.is("all were taken", x.count(5), 0);
    }

    /** "taken only if its stamp is greater than that of what was taken last of its kind" */
    private static void olderReportIsNotTaken() {
        MovingBlock x = Setup.oneTrain(20, 1000);
        x.demand(0, 1);
        x.tick(1);
        x.radio(0, 3, 1);
        x.tick(1);
        x.radio(0, 1, 1);
        x.tick(1);
        DUE.is("the newer one", x.state(0, REPORT), 3);
        int reach = x.measure(0, 5);
        DUE.is("the older one is on the way", x.count(3), 1);
        x.radio(0, 0, 1);
        x.tick(1);
        DUE.is("the older one is not taken", x.state(0, REPORT), 3);
        DUE.is("its reach is not", x.measure(0, 5), reach);
        DUE.is("it arrived", x.count(3), 0);
        DUE.is("and was not taken", x.count(5), 1);
        DUE.is("only the last report was lost", x.count(4), 1);
    }

    private static void olderAuthorityIsNotTaken() {
        MovingBlock x = Setup.oneTrain(20, 1000);
        x.hold(0, 1500, true);
        x.radio(0, 1, 5);
        x.tick(3);
        x.hold(0, 1600, true);
        x.radio(0, 1, 1);
        x.tick(1);
        DUE.is("the newer one", x.state(0, AUTHORITY), 4);
        DUE.is("its place", x.measure(0, 4), 12800);
        DUE.is("three older ones are on the way", x.state(0, 4), 3);
        x.radio(0, 1, 0);
        x.tick(3);
        DUE.is("none of them is taken", x.state(0, AUTHORITY), 4);
        DUE.is("nor its place", x.measure(0, 4), 12800);
        DUE.is("they arrived and were not taken", x.count(5), 3);
        DUE.is("none on the way", x.state(0, 4), 0);
    }

    private static void kindsAndTrainsHaveStampsOfTheirOwn() {
        MovingBlock x = Setup.trains(2);
        x.radio(0, 1, 5);
        x.radio(1, 5, 1);
        x.tick(5);
        DUE.is("report of train 0", x.state(0, REPORT), 5);
        DUE.is("an authority older than it is taken", x.state(0, AUTHORITY), 1);
        DUE.is("a report older than that of train 0 is taken", x.state(1, REPORT), 1);
        DUE.is("authority of train 1", x.state(1, AUTHORITY), 5);
        DUE.is("all were taken", x.count(5), 0);
    }

    /** A message tells what was so when it was sent, and keeps its stamp and its delay. */
    private static void whatWasSentIsWhatArrives() {
        MovingBlock x = Setup.oneTrain(20, 1000);
        x.demand(0, 1);
        x.tick(1);
        x.radio(0, 5, 5);
        x.hold(0, 1700, true);
        x.tick(1);
        x.hold(0, 1700, false);
        x.radio(0, 0, 0);
        x.tick(3);
        DUE.is("report not yet", x.state(0, REPORT), 1);
        DUE.is("authority not yet", x.measure(0, 4), Setup.LINE_END);
        x.tick(1);
        DUE.is("the report's stamp", x.state(0, REPORT), 2);
        DUE.is("the reach behind one tick: way 2, doubt 2", x.measure(0, 5), 8004);
        DUE.is("the tail behind one tick", x.measure(0, 6), 7840);
        DUE.is("the authority's stamp", x.state(0, AUTHORITY), 2);
        DUE.is("the hold was closed then", x.measure(0, 4), 13600);
    }

    /** By the delay 5 four messages of a kind are on the way behind a tick: 8 for a train, 32 for four. */
    private static void mostThatCanBeOnTheWay() {
        MovingBlock x = Setup.trains(4);
        x.tick(1);
        for (int train = 0; train < 4; train++) {
            x.radio(train, 5, 5);
        }
        int[] dues = {8, 16, 24, 32, 32, 32, 32};
        for (int due : dues) {
            x.tick(1);
            DUE.is("on the way at " + x.count(0), x.count(3), due);
            for (int train = 0; train < 4; train++) {
                DUE.is("of train " + train, x.state(train, 4), due / 4);
            }
        }
        for (int train = 0; train < 4; train++) {
            x.radio(train, 0, 0);
        }
        x.tick(4);
        DUE.is("all have arrived", x.count(3), 0);
        DUE.is("all were taken", x.count(5), 0);
        DUE.is("lost since", x.count(4), 32);
    }

    private static void noneOnTheWayWithoutDelay() {
        MovingBlock x = Setup.trains(4);
        for (int i = 0; i < 10; i++) {
            x.tick(1 + i % 8);
            DUE.is("on the way", x.count(3), 0);
        }
        DUE.is("lost", x.count(4), 0);
        DUE.is("not taken", x.count(5), 0);
    }
}
