public final class Promise10MeasureTest {
    private static final Due DUE = new Due("measure");

    public static void main(String[] args) {
        ranges();
        values();
        negativeAuthority();
        DUE.end();
    }

    private static void ranges() {
        MovingBlock x = new MovingBlock();
        DUE.refused("no train", x.measure(0, 0));
        x.enter(50, 1000);
        DUE.refused("measure(0, -1)", x.measure(0, -1));
        DUE.refused("measure(0, 8)", x.measure(0, 8));
        DUE.refused("measure(1, 0)", x.measure(1, 0));
        DUE.refused("measure(-1, 0)", x.measure(-1, 0));
        DUE.refused("measure(MAX, MAX)", x.measure(Integer.MAX_VALUE, Integer.MAX_VALUE));
        DUE.refused("measure(MIN, MIN)", x.measure(Integer.MIN_VALUE, Integer.MIN_VALUE));
        DUE.is("measure(0, 7)", x.measure(0, 7), 7600);
    }

    private static void all(MovingBlock x, int train, int... due) {
        for (int what = 0; what < due.length; what++) {
            DUE.is("measure(" + train + ", " + what + ") at " + x.count(0), x.measure(train, what), due[what]);
        }
    }

    private static void values() {
        MovingBlock x = new MovingBlock();
        x.enter(100, 700);
        x.enter(50, 550);
        all(x, 0, 5600, 0, 5600, 0, -1, -1, -1, 4800);
        x.demand(0, 1);
        x.drift(0, 1);
        x.tick(1);
        all(x, 0, 5602, 4, 5603, 2, 32768, 5600, 4800, 4802);
        all(x, 1, 4400, 0, 4400, 0, 4736, 4400, 4000, 4000);
        x.tick(1);
        all(x, 0, 5608, 8, 5610, 4, 32768, 5605, 4801, 4808);
        all(x, 1, 4400, 0, 4400, 0, 4737, 4400, 4000, 4000);
        all(x, 1, 4400, 0, 4400, 0, 4737, 4400, 4000, 4000);
    }

    /** A crawling train with drift -2 believes itself ever farther back, until its tail is below 8 m. */
    private static void negativeAuthority() {
        MovingBlock x = new MovingBlock();
        x.enter(20, 48);
        x.enter(20, 20);
        x.drift(0, -2);
        x.piece(0, 40, -1);
        x.demand(1, -1);
        x.tick(1);
        x.piece(0, 40, 0);
        DUE.is("crawls", x.measure(0, 1), 2);
        Due.ticks(x, 120);
        DUE.is("reported tail", x.measure(0, 6), 384 - 1 - 2 - 160 - 119 * 2);
        DUE.is("authority", x.measure(1, 4), 384 - 1 - 2 - 160 - 119 * 2 - 64);
        DUE.is("true rear", x.measure(0, 7), 224 + 1 + 240);
        DUE.is("permitted", x.permitted(1), -1);
        DUE.is("tail below 0 lies in piece 0", x.permitted(0), 320);
        x.piece(0, 7, 0);
        DUE.is("tail below 0 has the limit of piece 0", x.permitted(0), 56);
    }
}
