public final class Promise08RadioTest {
    private static final Due DUE = new Due("radio");

    public static void main(String[] args) {
        ranges();
        for (int delay = 1; delay <= 5; delay++) {
            delayUp(delay);
            delayDown(delay);
        }
        losses();
        delayOfTheSending();
        overtaking();
        sameTickInOrder();
        DUE.end();
    }

    private static void ranges() {
        MovingBlock x = new MovingBlock();
        DUE.refused("no train", x.radio(0, 1, 1));
        x.enter(50, 1000);
        DUE.is("radio(0, 0, 5)", x.radio(0, 0, 5), 1);
        DUE.is("radio(0, 5, 0)", x.radio(0, 5, 0), 1);
        DUE.is("radio(0, 2, 1)", x.radio(0, 2, 1), 1);
        DUE.refused("radio(0, 6, 1)", x.radio(0, 6, 1));
        DUE.refused("radio(0, -1, 1)", x.radio(0, -1, 1));
        DUE.refused("radio(0, 1, 6)", x.radio(0, 1, 6));
        DUE.refused("radio(0, 1, -1)", x.radio(0, 1, -1));
        DUE.refused("radio(1, 1, 1)", x.radio(1, 1, 1));
        DUE.refused("radio(-1, 1, 1)", x.radio(-1, 1, 1));
        DUE.refused("radio(MAX, MAX, MAX)",
                x.radio(Integer.MAX_VALUE, Integer.MAX_VALUE, Integer.MAX_VALUE));
        DUE.refused("radio(MIN, MIN, MIN)",
                x.radio(Integer.MIN_VALUE, Integer.MIN_VALUE, Integer.MIN_VALUE));
        x.tick(2);
        DUE.is("up 2 is left behind refused calls", x.state(0, 1), 1);
        DUE.is("down 1 is left behind refused calls", x.state(0, 2), 2);
    }

    private static void delayUp(int delay) {
        MovingBlock x = new MovingBlock();
        x.enter(50, 1000);
        x.radio(0, delay, 1);
        for (int clock = 1; clock <= 12; clock++) {
            x.tick(1);
            int stamp = Math.max(0, clock - delay + 1);
            DUE.is("report's stamp by " + delay, x.state(0, 1), stamp);
            DUE.is("authority's stamp by " + delay, x.state(0, 2), stamp == 0 ? 0 : clock);
            DUE.is("on the way by " + delay, x.state(0, 4), Math.min(clock, delay - 1));
        }
        DUE.is("lost", x.count(4), 0);
        DUE.is("not taken", x.count(5), 0);
    }

    private static void delayDown(int delay) {
        MovingBlock x = new MovingBlock();
        x.enter(50, 1000);
        x.radio(0, 1, delay);
        for (int clock = 1; clock <= 12; clock++) {
            x.tick(1);
            DUE.is("report's stamp", x.state(0, 1), clock);
            DUE.is("authority's stamp by " + delay, x.state(0, 2), Math.max(0, clock - delay + 1));
            DUE.is("on the way by " + delay, x.count(3), Math.min(clock, delay - 1));
        }
    }

    private static void losses() {
        MovingBlock x = new MovingBlock();
        x.enter(50, 1000);
        x.radio(0, 0, 0);
        x.tick(4);
        DUE.is("reports lost, no authority sent", x.count(4), 4);
        DUE.is("no report", x.state(0, 1), 0);
        DUE.is("none on the way", x.count(3), 0);
        x.radio(0, 1, 0);
        x.tick(3);
        DUE.is("authorities lost", x.count(4), 7);
        DUE.is("no authority", x.measure(0, 4), -1);
        x.radio(0, 0, 0);
        x.tick(2);
        DUE.is("both lost", x.count(4), 11);
        DUE.is("none on the way", x.state(0, 4), 0);
        DUE.is("lost ones have not arrived", x.count(5), 0);
    }

    /** A message keeps the delay with which it was sent. */
    private static void delayOfTheSending() {
        MovingBlock x = new MovingBlock();
        x.enter(50, 1000);
        x.radio(0, 4, 1);
        x.tick(1);
        x.radio(0, 0, 1);
        x.tick(2);
        DUE.is("still on the way", x.state(0, 4), 1);
        DUE.is("none taken", x.state(0, 1), 0);
        x.tick(1);
        DUE.is("arrived 3 ticks later", x.state(0, 1), 1);
        DUE.is("none on the way", x.state(0, 4), 0);
        DUE.is("lost meanwhile", x.count(4), 3);
    }

    private static void overtaking() {
        MovingBlock x = new MovingBlock();
        x.enter(50, 1000);
        x.demand(0, 1);
        x.radio(0, 1, 3);
        x.hold(0, 1100, true);
        x.tick(1);
        x.hold(0, 1100, false);
        x.radio(0, 1, 1);
        x.tick(1);
        DUE.is("the newer came first", x.state(0, 2), 2);
        DUE.is("its authority", x.measure(0, 4), 32768);
        x.radio(0, 0, 0);
        x.tick(1);
        DUE.is("the older is not taken", x.state(0, 2), 2);
        DUE.is("the authority stays", x.measure(0, 4), 32768);
        DUE.is("not taken", x.count(5), 1);
        DUE.is("none on the way", x.count(3), 0);
    }

    private static void sameTickInOrder() {
        MovingBlock x = new MovingBlock();
        x.enter(50, 1000);
        x.radio(0, 3, 1);
        x.tick(1);
        x.radio(0, 2, 1);
        x.tick(1);
        x.radio(0, 1, 1);
        x.tick(1);
        DUE.is("three arrive, all taken in their order", x.state(0, 1), 3);
        DUE.is("not taken", x.count(5), 0);
        DUE.is("on the way", x.count(3), 0);
    }
}
