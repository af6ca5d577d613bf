public final class Promise01NewObjectTest {
    private static final Due DUE = new Due("new object");

    public static void main(String[] args) {
        isEmpty(new MovingBlock());
        trainStandsAtFirst();
        lineIsFreeAtFirst();
        objectsShareNothing();
        DUE.is("REFUSED", MovingBlock.REFUSED, Due.REFUSED);
        DUE.end();
    }

    private static void isEmpty(MovingBlock x) {
        for (int what = 0; what <= 5; what++) {
            DUE.is("count(" + what + ")", x.count(what), 0);
        }
        DUE.refused("measure(0, 0)", x.measure(0, 0));
        DUE.refused("state(0, 0)", x.state(0, 0));
        DUE.refused("permitted(0)", x.permitted(0));
        DUE.refused("demand(0, 0)", x.demand(0, 0));
        DUE.refused("drift(0, 0)", x.drift(0, 0));
        DUE.refused("radio(0, 1, 1)", x.radio(0, 1, 1));
        DUE.is("tick(3)", x.tick(3), 3);
        DUE.is("count(0)", x.count(0), 3);
        DUE.is("count(3)", x.count(3), 0);
    }

    private static void trainStandsAtFirst() {
        MovingBlock x = new MovingBlock();
        x.enter(100, 300);
        Due.ticks(x, 4);
        DUE.is("no demand at first", x.measure(0, 1), 0);
        DUE.is("no way at first", x.measure(0, 0), 2400);
        DUE.is("report of this tick by delay 1", x.state(0, 1), 4);
        DUE.is("authority of this tick by delay 1", x.state(0, 2), 4);
        x.demand(0, 1);
        x.tick(4);
        DUE.is("no drift at first", x.measure(0, 2) - x.measure(0, 0), 0);
    }

    private static void lineIsFreeAtFirst() {
        MovingBlock x = new MovingBlock();
        x.enter(20, 20);
        x.tick(1);
        DUE.is("no hold closed, controllers up", x.measure(0, 4), 32768);
        DUE.is("all limits are 40", x.permitted(0), 320);
        DUE.is("controller(0, true)", x.controller(0, true), 0);
        DUE.is("controller(1, true)", x.controller(1, true), 0);
        for (int piece = 0; piece < 8; piece++) {
            MovingBlock y = new MovingBlock();
            y.enter(20, 512 * piece + 100);
            y.demand(0, 1);
            y.tick(1);
            DUE.is("no grade in piece " + piece, y.measure(0, 1), 4);
        }
    }

    private static void objectsShareNothing() {
        MovingBlock x = new MovingBlock();
        MovingBlock y = new MovingBlock();
        x.enter(100, 300);
        x.piece(0, 5, 1);
        x.hold(0, 400, true);
        x.controller(1, false);
        x.tick(8);
        isEmpty(y);
        y.enter(100, 300);
        y.tick(1);
        DUE.is("authority of the other object", y.measure(0, 4), 32768);
        DUE.is("permitted of the other object", y.permitted(0), 320);
    }
}
