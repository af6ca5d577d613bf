public final class Promise11StateTest {
    private static final Due DUE = new Due("state");

    public static void main(String[] args) {
        ranges();
        stampsAndMessages();
        emergencies();
        pieces();
        DUE.end();
    }

    private static void ranges() {
        MovingBlock x = new MovingBlock();
        DUE.refused("no train", x.state(0, 0));
        x.enter(50, 1000);
        DUE.refused("state(0, -1)", x.state(0, -1));
        DUE.refused("state(0, 6)", x.state(0, 6));
        DUE.refused("state(1, 0)", x.state(1, 0));
        DUE.refused("state(-1, 0)", x.state(-1, 0));
        DUE.refused("state(MAX, MAX)", x.state(Integer.MAX_VALUE, Integer.MAX_VALUE));
        DUE.refused("state(MIN, MIN)", x.state(Integer.MIN_VALUE, Integer.MIN_VALUE));
    }

    private static void stampsAndMessages() {
        MovingBlock x = new MovingBlock();
        x.enter(50, 2000);
        x.enter(50, 1000);
        x.radio(1, 3, 4);
        x.tick(2);
        DUE.is("no report yet", x.state(1, 1), 0);
        DUE.is("two reports on the way", x.state(1, 4), 2);
        x.tick(1);
        DUE.is("first report", x.state(1, 1), 1);
        DUE.is("no authority yet", x.state(1, 2), 0);
        DUE.is("two reports and an authority", x.state(1, 4), 3);
        x.tick(3);
        DUE.is("report", x.state(1, 1), 4);
        DUE.is("authority", x.state(1, 2), 3);
        DUE.is("two reports and three authorities", x.state(1, 4), 5);
        DUE.is("other train has none on the way", x.state(0, 4), 0);
        DUE.is("other train's stamp", x.state(0, 2), 6);
        DUE.is("all on the way", x.count(3), 5);
    }

    private static void emergencies() {
        MovingBlock x = new MovingBlock();
        x.enter(50, 1100);
        x.demand(0, 1);
        for (int time = 1; time <= 3; time++) {
            x.piece(2, 40, 0);
            x.tick(8);
            DUE.is("none", x.state(0, 0), 0);
            x.piece(2, 1, 0);
            x.tick(1);
            DUE.is("in emergency", x.state(0, 0), 1);
            DUE.is("how often", x.state(0, 3), time);
            x.tick(2);
            DUE.is("stands", x.measure(0, 1), 0);
            DUE.is("ended", x.state(0, 0), 0);
            DUE.is("how often", x.state(0, 3), time);
        }
    }

    private static void pieces() {
        int[][] dues = {{20, 0}, {511, 0}, {512, 1}, {1024, 2}, {2047, 3}, {2048, 4}, {3583, 6}, {3584, 7}, {4000, 7}};
        for (int[] due : dues) {
            MovingBlock x = new MovingBlock();
            x.enter(20, due[0]);
            DUE.is("piece of " + due[0], x.state(0, 5), due[1]);
        }
    }
}
