public final class Promise12PermittedTest {
    private static final Due DUE = new Due("permitted");

    public static void main(String[] args) {
        ranges();
        byAuthority();
        notByAge();
        evenEighths();
        DUE.end();
    }

    private static void ranges() {
        MovingBlock x = new MovingBlock();
        DUE.refused("permitted(0)", x.permitted(0));
        x.enter(50, 1000);
        DUE.is("no authority", x.permitted(0), -1);
        DUE.refused("permitted(1)", x.permitted(1));
        DUE.refused("permitted(-1)", x.permitted(-1));
        DUE.refused("permitted(4)", x.permitted(4));
        DUE.refused("permitted(MAX)", x.permitted(Integer.MAX_VALUE));
        DUE.refused("permitted(MIN)", x.permitted(Integer.MIN_VALUE));
        x.tick(1);
        DUE.is("at most 40 m/s", x.permitted(0), 320);
    }

    private static int withRoom(int metres) {
        MovingBlock x = new MovingBlock();
        x.enter(50, 1000);
        x.hold(0, 1000 + metres, true);
        x.tick(1);
        return x.permitted(0);
    }

    private static void byAuthority() {
        DUE.is("no room: only 0 is safe", withRoom(0), 0);
        DUE.is("1 m: 96", withRoom(1), 8);
        DUE.is("2 m: 192", withRoom(2), 12);
        DUE.is("6 m: 576 is 24 squared", withRoom(6), 24);
        DUE.is("24 m: 2304 is 48 squared", withRoom(24), 48);
        DUE.is("1066 m: 102336", withRoom(1066), 318);
        DUE.is("1067 m: 102432", withRoom(1067), 320);
        DUE.is("2000 m", withRoom(2000), 320);
    }

    private static void notByAge() {
        MovingBlock x = new MovingBlock();
        x.enter(50, 1000);
        x.tick(1);
        x.radio(0, 0, 0);
        Due.ticks(x, 40);
        DUE.is("an old authority is one", x.permitted(0), 320);
    }

    /** Speeds are multiples of a quarter, so that 81 eighths (81 squared is 6561) are no answer. */
    private static void evenEighths() {
        MovingBlock x = new MovingBlock();
        x.enter(20, 450);
        x.tick(1);
        for (int limit = 1; limit <= 40; limit++) {
            x.piece(1, limit, 0);
            int square = 64 * limit * limit + 12 * 496;
            int due = 0;
            while (due + 2 <= 320 && (due + 2) * (due + 2) <= square) {
                due += 2;
            }
            DUE.is("limit ahead " + limit, x.permitted(0), due);
        }
    }
}
