/** The edges of the pieces, to the eighth of a metre: for the front, the reach and the tail. */
public final class EdgesOfPiecesTest {
    private static final Due DUE = new Due("edges of pieces");

    public static void main(String[] args) {
        for (int piece = 1; piece <= 7; piece++) {
            frontInWholeMetres(piece);
            frontOneEighthBelow(piece);
            frontExactlyAt(piece);
            estimateAloneCrosses(piece);
            gradeOneEighthBelow(piece);
            gradeExactlyAt(piece);
            reachComesToTheEdge(piece);
            tailExactlyAt(piece);
            tailOneEighthBelow(piece);
            movingTailExactlyAt(piece);
            movingTailOneEighthBelow(piece);
        }
        firstAndLastPlace();
        tailAtZeroAndBelow();
        tailBelowZeroReachInPieceOne();
        reachBeforeTheEnd();
        reachAtTheEnd();
        reachBeyondTheEnd();
        frontAsNearToTheEndAsCanBe();
        DUE.end();
    }

    /** "piece k goes from 512 k up to below 512 (k + 1)" */
    private static void frontInWholeMetres(int piece) {
        DUE.is("1 m below " + piece, Setup.oneTrain(20, 512 * piece - 1).state(0, 5), piece - 1);
        DUE.is("at " + piece, Setup.oneTrain(20, 512 * piece).state(0, 5), piece);
    }

    private static void firstAndLastPlace() {
        DUE.is("the first front", Setup.oneTrain(20, 20).state(0, 5), 0);
        DUE.is("the last front", Setup.oneTrain(20, 4000).state(0, 5), 7);
    }

    /** Rolls by ways of 1, 2, 2 and 2 eighths from 8 eighths below the edge. */
    private static MovingBlock oneEighthBelow(int piece, int drift) {
        MovingBlock x = Setup.oneTrain(20, 512 * piece - 1);
        x.drift(0, drift);
        Setup.roll(x, piece - 1);
        x.tick(3);
        return x;
    }

    /** "If the front thereby came to another piece ..., the estimate is the front and the doubt 0." */
    private static void frontOneEighthBelow(int piece) {
        MovingBlock x = oneEighthBelow(piece, 1);
        DUE.is("front below " + piece, x.measure(0, 0), Setup.edge(piece) - 1);
        DUE.is("it is in the piece before", x.state(0, 5), piece - 1);
        DUE.is("the estimate drifts on", x.measure(0, 2), Setup.edge(piece) + 3);
        DUE.is("the doubt grows on", x.measure(0, 3), 8);
        x.tick(1);
        DUE.is("front beyond " + piece, x.measure(0, 0), Setup.edge(piece) + 1);
        DUE.is("it is in the next piece", x.state(0, 5), piece);
        DUE.is("the estimate is the front", x.measure(0, 2), Setup.edge(piece) + 1);
        DUE.is("the doubt is 0", x.measure(0, 3), 0);
    }

    /** Ways of 2 and 6 eighths from 8 eighths below the edge. */
    private static MovingBlock exactlyAt(int piece) {
        MovingBlock x = Setup.oneTrain(20, 512 * piece - 1);
        x.drift(0, 2);
        x.demand(0, 1);
        x.tick(2);
        return x;
    }

    private static void frontExactlyAt(int piece) {
        MovingBlock x = exactlyAt(piece);
        DUE.is("front at " + piece, x.measure(0, 0), Setup.edge(piece));
        DUE.is("it is in the piece that begins there", x.state(0, 5), piece);
        DUE.is("the estimate is the front", x.measure(0, 2), Setup.edge(piece));
        DUE.is("the doubt is 0", x.measure(0, 3), 0);
        x.tick(1);
        DUE.is("the next tick comes to no other piece", x.measure(0, 3), 2);
        DUE.is("so the estimate drifts", x.measure(0, 2) - x.measure(0, 0), 2);
    }

    /** It is the front that has to come to another piece, not what the train takes for it. */
    private static void estimateAloneCrosses(int piece) {
        MovingBlock x = Setup.oneTrain(20, 512 * piece - 1);
        x.drift(0, 2);
        Setup.roll(x, piece - 1);
        x.tick(2);
        DUE.is("front", x.measure(0, 0), Setup.edge(piece) - 3);
        DUE.is("estimate", x.measure(0, 2), Setup.edge(piece) + 3);
        DUE.is("doubt", x.measure(0, 3), 6);
    }

    /** "less a quarter of the grade of the piece of its front" */
    private static void gradeOneEighthBelow(int piece) {
        MovingBlock x = oneEighthBelow(piece, 2);
        x.piece(piece, 40, -1);
        x.tick(1);
        DUE.is("grade of the piece before " + piece, x.measure(0, 1), 2);
        x.tick(1);
        DUE.is("grade of " + piece, x.measure(0, 1), 4);
    }

    private static void gradeExactlyAt(int piece) {
        MovingBlock x = exactlyAt(piece);
        x.demand(0, 0);
        x.piece(piece - 1, 40, -1);
        x.piece(piece, 40, 1);
        x.tick(1);
        DUE.is("grade of " + piece + " from its edge on", x.measure(0, 1), 6);
    }

    /** With the limit 1 ahead: 64 + 12 * 3 is 10 squared; at the edge it is the limit itself. */
    private static void reachComesToTheEdge(int piece) {
        MovingBlock x = Setup.oneTrain(20, 512 * piece - 1);
        x.drift(0, 2);
        Setup.roll(x, piece - 1);
        x.piece(piece, 1, 0);
        DUE.is("reach below " + piece, Setup.reach(x, 0), Setup.edge(piece) - 3);
        DUE.is("permitted", x.permitted(0), 10);
        Setup.ticksWithDrifts(x, -1);
        DUE.is("reach at " + piece, Setup.reach(x, 0), Setup.edge(piece));
        DUE.is("front is in the piece before", x.state(0, 5), piece - 1);
        DUE.is("permitted", x.permitted(0), 8);
        Setup.ticksWithDrifts(x, -1);
        DUE.is("reach beyond the edge", Setup.reach(x, 0), Setup.edge(piece) + 3);
        DUE.is("permitted", x.permitted(0), 8);
    }

    /** "v is at most the limit of every piece that lies anywhere from tail to reach" */
    private static void tailExactlyAt(int piece) {
        MovingBlock x = Setup.oneTrain(20, 512 * piece + 20);
        x.drift(0, 1);
        Setup.roll(x, piece);
        DUE.is("tail at " + piece, Setup.tail(x, 0), Setup.edge(piece));
        int before = x.permitted(0);
        x.piece(piece - 1, 1, 0);
        DUE.is("the piece before does not count", x.permitted(0), before);
    }

    private static void tailOneEighthBelow(int piece) {
        MovingBlock x = Setup.oneTrain(20, 512 * piece + 20);
        Setup.roll(x, piece);
        DUE.is("tail below " + piece, Setup.tail(x, 0), Setup.edge(piece) - 1);
        x.piece(piece - 1, 1, 0);
        DUE.is("the piece before counts", x.permitted(0), 8);
    }

    private static void movingTailExactlyAt(int piece) {
        MovingBlock x = Setup.oneTrain(20, 512 * piece - 3 + 20);
        x.demand(0, 1);
        x.tick(4);
        DUE.is("tail at " + piece, Setup.tail(x, 0), Setup.edge(piece));
        x.piece(piece - 1, 1, 0);
        x.tick(1);
        DUE.is("faster than the piece before allows", x.measure(0, 1), 20);
        DUE.is("no emergency", x.state(0, 3), 0);
    }

    private static void movingTailOneEighthBelow(int piece) {
        MovingBlock x = Setup.oneTrain(20, 512 * piece - 2 + 20);
        x.drift(0, 1);
        x.demand(0, 1);
        x.tick(3);
        DUE.is("tail below " + piece, Setup.tail(x, 0), Setup.edge(piece) - 1);
        x.piece(piece - 1, 1, 0);
        x.tick(1);
        DUE.is("brakes by 12", x.measure(0, 1), 0);
        DUE.is("emergency", x.state(0, 3), 1);
    }

    /** "(... below 0 it is piece 0.)" */
    private static void tailAtZeroAndBelow() {
        MovingBlock x = Setup.oneTrain(20, 20);
        x.tick(1);
        DUE.is("tail at 0", Setup.tail(x, 0), 0);
        DUE.is("permitted", x.permitted(0), 320);
        Setup.roll(x, 0);
        DUE.is("tail below 0", Setup.tail(x, 0), -1);
        DUE.is("permitted", x.permitted(0), 320);
        x.tick(1);
        DUE.is("a reported tail of -1", x.measure(0, 6), -1);
        DUE.is("was taken all the same", x.state(0, 1), 3);
        x.piece(7, 1, 0);
        DUE.is("no other piece counts", x.permitted(0), 320);
        x.piece(0, 3, 0);
        DUE.is("limit of piece 0", x.permitted(0), 24);
        x.demand(0, 1);
        x.tick(5);
        DUE.is("speeds up to below the limit", x.measure(0, 1), 22);
        x.tick(1);
        DUE.is("and not beyond it", x.measure(0, 1), 14);
    }

    /** A crawl by 2 eighths a tick, of which the estimate gets 1 only: doubt fills the line behind it. */
    private static void tailBelowZeroReachInPieceOne() {
        MovingBlock x = Setup.oneTrain(20, 20);
        x.drift(0, -1);
        Setup.roll(x, 0);
        Due.ticks(x, 1312);
        DUE.is("reach in piece 1", Setup.reach(x, 0), 4098);
        DUE.is("tail below 0", Setup.tail(x, 0), -1314);
        DUE.is("permitted", x.permitted(0), 320);
        x.piece(0, 3, 0);
        DUE.is("limit of piece 0", x.permitted(0), 24);
        x.piece(0, 40, 0);
        x.piece(1, 5, 0);
        DUE.is("limit of piece 1", x.permitted(0), 40);
        x.tick(1);
        DUE.is("the reported tail is below 0 too", x.measure(0, 6), -1314);
    }

    private static MovingBlock drivenToTheEnd(int front, int drift) {
        MovingBlock x = Setup.oneTrain(20, front);
        x.drift(0, drift);
        x.demand(0, 1);
        Due.ticks(x, 160);
        DUE.is("stands", x.measure(0, 1), 0);
        DUE.is("piece of the front", x.state(0, 5), 7);
        return x;
    }

    private static void reachBeforeTheEnd() {
        MovingBlock x = drivenToTheEnd(3995, -1);
        DUE.is("reach", Setup.reach(x, 0), Setup.LINE_END - 1);
        DUE.is("12 * 1 allows 2", x.permitted(0), 2);
    }

    /** "at 4096 and beyond, it is 7": no piece lies beyond that, and piece 7's limit counts. */
    private static void reachAtTheEnd() {
        MovingBlock x = drivenToTheEnd(3995, 0);
        DUE.is("reach", Setup.reach(x, 0), Setup.LINE_END);
        DUE.is("only 0 is safe", x.permitted(0), 0);
        x.piece(7, 1, -1);
        DUE.is("piece 7 is not beyond the reach: 0 is safe there by any limit", x.permitted(0), 0);
        x.demand(0, 0);
        x.hold(0, 4096, true);
        x.tick(8);
        DUE.is("the brake holds it downhill", x.measure(0, 1), 0);
        DUE.is("reported reach", x.measure(0, 5), Setup.LINE_END);
        DUE.is("authority", x.measure(0, 4), Setup.LINE_END);
        DUE.is("it stays on the line", x.count(1), 1);
    }

    private static void reachBeyondTheEnd() {
        MovingBlock x = drivenToTheEnd(3990, 1);
        DUE.is("reach", Setup.reach(x, 0), Setup.LINE_END + 1);
        DUE.is("not even 0 is safe", x.permitted(0), -1);
        x.hold(0, 4096, true);
        x.controller(0, false);
        x.tick(8);
        DUE.is("reported reach", x.measure(0, 5), Setup.LINE_END + 1);
        DUE.is("authority of controller 1", x.measure(0, 4), Setup.LINE_END);
        DUE.is("its stamp", x.state(0, 2), x.count(0));
        DUE.is("it stays on the line", x.count(1), 1);
        DUE.is("it stands", x.measure(0, 1), 0);
    }

    /**
     * With the drift -2 the reach is the front. Every start leaves at least 2 eighths, as the unit counts
     * on more doubt, so that by the calls of the face no front comes nearer to 4096 m than this.
     */
    private static void frontAsNearToTheEndAsCanBe() {
        MovingBlock x = drivenToTheEnd(4000, -2);
        DUE.is("front", x.measure(0, 0), Setup.LINE_END - 4);
        x.demand(0, 0);
        Setup.roll(x, 7);
        x.tick(1);
        DUE.is("front", x.measure(0, 0), Setup.LINE_END - 2);
        DUE.is("reach", Setup.reach(x, 0), Setup.LINE_END - 2);
        x.piece(7, 40, -1);
        Due.ticks(x, 16);
        x.demand(0, 1);
        Due.ticks(x, 16);
        DUE.is("front", x.measure(0, 0), Setup.LINE_END - 2);
        DUE.is("piece", x.state(0, 5), 7);
        DUE.is("trains", x.count(1), 1);
        DUE.is("permitted", x.permitted(0), 4);
    }
}
