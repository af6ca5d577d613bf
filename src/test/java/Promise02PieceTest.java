public final class Promise02PieceTest {
    private static final Due DUE = new Due("piece");

    public static void main(String[] args) {
        ranges();
        refusedChangesNothing();
        limitHere();
        limitUnderTheTail();
        limitBetween();
        limitAhead();
        grades();
        DUE.end();
    }

    private static MovingBlock standing(int length, int front) {
        MovingBlock x = new MovingBlock();
        x.enter(length, front);
        x.tick(1);
        return x;
    }

    private static void ranges() {
        MovingBlock x = new MovingBlock();
        DUE.is("piece(0, 1, -1)", x.piece(0, 1, -1), 1);
        DUE.is("piece(7, 40, 1)", x.piece(7, 40, 1), 1);
        DUE.is("piece(7, 40, 1) again", x.piece(7, 40, 1), 1);
        DUE.is("piece(3, 20, 0)", x.piece(3, 20, 0), 1);
        DUE.refused("piece(-1, 20, 0)", x.piece(-1, 20, 0));
        DUE.refused("piece(8, 20, 0)", x.piece(8, 20, 0));
        DUE.refused("piece(3, 0, 0)", x.piece(3, 0, 0));
        DUE.refused("piece(3, 41, 0)", x.piece(3, 41, 0));
        DUE.refused("piece(3, 20, -2)", x.piece(3, 20, -2));
        DUE.refused("piece(3, 20, 2)", x.piece(3, 20, 2));
        DUE.refused("piece(MAX, MAX, MAX)",
                x.piece(Integer.MAX_VALUE, Integer.MAX_VALUE, Integer.MAX_VALUE));
        DUE.refused("piece(MIN, MIN, MIN)",
                x.piece(Integer.MIN_VALUE, Integer.MIN_VALUE, Integer.MIN_VALUE));
    }

    private static void refusedChangesNothing() {
        MovingBlock x = standing(20, 100);
        x.piece(0, 10, 0);
        x.piece(0, 5, 2);
        x.piece(0, 0, -1);
        DUE.is("limit behind refused calls", x.permitted(0), 80);
        x.tick(1);
        DUE.is("grade behind refused calls", x.measure(0, 1), 0);
    }

    /** In the last pieces it is the end of the line that allows less than 40 m/s at first. */
    private static void limitHere() {
        int[] before = {320, 320, 320, 320, 320, 320, 310, 216};
        for (int piece = 0; piece < 8; piece++) {
            MovingBlock x = standing(20, 512 * piece + 20);
            DUE.is("before", x.permitted(0), before[piece]);
            x.piece(piece, 3, 0);
            DUE.is("limit 3 in piece " + piece, x.permitted(0), 24);
            x.piece(piece, 1, 0);
            DUE.is("limit 1 in piece " + piece, x.permitted(0), 8);
        }
    }

    private static void limitUnderTheTail() {
        MovingBlock x = standing(100, 612);
        x.piece(0, 5, 0);
        DUE.is("tail at 512", x.permitted(0), 320);
        x = standing(100, 611);
        x.piece(0, 5, 0);
        DUE.is("tail at 511", x.permitted(0), 40);
        x = standing(100, 512);
        x.piece(1, 6, 0);
        DUE.is("reach at 512", x.permitted(0), 48);
    }

    /** A crawling train gathers so much doubt that a whole piece lies between tail and reach. */
    private static void limitBetween() {
        MovingBlock x = new MovingBlock();
        x.enter(200, 513);
        x.piece(1, 40, -1);
        x.tick(1);
        x.piece(1, 40, 0);
        Due.ticks(x, 1100);
        DUE.is("crawls at a quarter", x.measure(0, 1), 2);
        DUE.is("reach in piece 2", (x.measure(0, 2) + x.measure(0, 3)) / 4096, 2);
        DUE.is("tail in piece 0", (x.measure(0, 2) - x.measure(0, 3) - 1600) / 4096, 0);
        DUE.is("before", x.permitted(0), 320);
        x.piece(1, 2, 0);
        DUE.is("limit of the piece between", x.permitted(0), 16);
        x.piece(1, 40, 0);
        x.piece(0, 3, 0);
        DUE.is("limit of the tail's piece", x.permitted(0), 24);
        x.piece(0, 40, 0);
        x.piece(2, 4, 0);
        DUE.is("limit of the reach's piece", x.permitted(0), 32);
    }

    private static void limitAhead() {
        MovingBlock x = standing(20, 450);
        x.piece(1, 3, 0);
        DUE.is("496 eighths before limit 3", x.permitted(0), 80);
        x.piece(1, 40, 0);
        x.piece(2, 1, 0);
        DUE.is("4592 eighths before limit 1", x.permitted(0), 234);
        x = standing(20, 511);
        x.piece(1, 1, 0);
        DUE.is("8 eighths before limit 1", x.permitted(0), 12);
    }

    private static void grades() {
        MovingBlock x = standing(20, 100);
        x.piece(0, 40, -1);
        x.tick(1);
        DUE.is("rolls down", x.measure(0, 1), 2);
        DUE.is("way", x.measure(0, 0), 801);
        x.piece(0, 40, 1);
        x.demand(0, 1);
        x.tick(1);
        DUE.is("pulls up", x.measure(0, 1), 4);
        x.demand(0, 0);
        x.tick(3);
        DUE.is("stops uphill", x.measure(0, 1), 0);
        x = standing(100, 520);
        x.piece(0, 40, -1);
        x.tick(1);
        DUE.is("grade under the tail alone", x.measure(0, 1), 0);
        x.piece(1, 40, -1);
        x.tick(1);
        DUE.is("grade under the front", x.measure(0, 1), 2);
    }
}
