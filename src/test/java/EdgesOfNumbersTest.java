import java.util.function.IntUnaryOperator;

/** Each range of the document: the number just inside and just outside, each argument by itself. */
public final class EdgesOfNumbersTest {
    private static final Due DUE = new Due("edges of numbers");

    public static void main(String[] args) {
        pieceLimitAndGrade();
        holdAndPlace();
        zone();
        lengthAndFront();
        demandDriftAndDelays();
        ticks();
        whats();
        trainNumbers();
        DUE.end();
    }

    /** The least and the greatest number are taken with the answer that is due; those beyond are refused. */
    private static void range(String call, int least, int greatest, int due, IntUnaryOperator answer) {
        DUE.is(call + " with " + least, answer.applyAsInt(least), due);
        DUE.is(call + " with " + greatest, answer.applyAsInt(greatest), due);
        outside(call, least, greatest, answer);
    }

    private static void outside(String call, int least, int greatest, IntUnaryOperator answer) {
        int[] wrong = {least - 1, greatest + 1, Integer.MIN_VALUE, Integer.MAX_VALUE};
        for (int number : wrong) {
            DUE.refused(call + " with " + number, answer.applyAsInt(number));
        }
    }

    private static void allInside(String call, int least, int greatest, IntUnaryOperator answer) {
        for (int number = least; number <= greatest; number++) {
            int got = answer.applyAsInt(number);
            DUE.is(call + " with " + number + " is refused", got == Due.REFUSED ? 1 : 0, 0);
        }
        outside(call, least, greatest, answer);
    }

    /** "PIECES 0 .. 7", "a LIMIT, 1 .. 40 m/s", "a GRADE, -1, 0 or 1" */
    private static void pieceLimitAndGrade() {
        range("piece(_, 20, 0)", 0, 7, 1, n -> new MovingBlock().piece(n, 20, 0));
        range("piece(3, _, 0)", 1, 40, 1, n -> new MovingBlock().piece(3, n, 0));
        range("piece(3, 20, _)", -1, 1, 1, n -> new MovingBlock().piece(3, 20, n));
        DUE.is("grade 0", new MovingBlock().piece(3, 20, 0), 1);
    }

    /** "HOLDS 0 .. 3 are places (whole metres 0 .. 4096 ...)" */
    private static void holdAndPlace() {
        for (int i = 0; i < 2; i++) {
            boolean closed = i == 1;
            range("hold(_, 100, " + closed + ")", 0, 3, 1, n -> new MovingBlock().hold(n, 100, closed));
            range("hold(0, _, " + closed + ")", 0, 4096, 1, n -> new MovingBlock().hold(0, n, closed));
        }
    }

    /** "Sets a controller (0, 1) UP or DOWN: 1 if that changes something, else 0." */
    private static void zone() {
        range("controller(_, false)", 0, 1, 1, n -> new MovingBlock().controller(n, false));
        range("controller(_, true)", 0, 1, 0, n -> new MovingBlock().controller(n, true));
    }

    /** "a LENGTH (20 .. 200 m)", "its front at the whole metre (length .. 4000)" */
    private static void lengthAndFront() {
        range("enter(_, 1000)", 20, 200, 0, n -> new MovingBlock().enter(n, 1000));
        range("enter(20, _)", 20, 4000, 0, n -> new MovingBlock().enter(20, n));
        range("enter(111, _)", 111, 4000, 0, n -> new MovingBlock().enter(111, n));
        range("enter(200, _)", 200, 4000, 0, n -> new MovingBlock().enter(200, n));
    }

    /** "a DEMAND -1, 0, 1", "a DRIFT -2 .. 2", "DELAYS up and down 0 .. 5" */
    private static void demandDriftAndDelays() {
        for (int number = 1; number <= 4; number++) {
            int trains = number;
            int last = number - 1;
            range("demand(" + last + ", _)", -1, 1, 1, n -> Setup.trains(trains).demand(last, n));
            range("drift(" + last + ", _)", -2, 2, 1, n -> Setup.trains(trains).drift(last, n));
            range("radio(" + last + ", _, 3)", 0, 5, 1, n -> Setup.trains(trains).radio(last, n, 3));
            range("radio(" + last + ", 3, _)", 0, 5, 1, n -> Setup.trains(trains).radio(last, 3, n));
        }
    }

    /** "Makes n (1 .. 8) ticks; answers the clock." */
    private static void ticks() {
        for (int n = 1; n <= 8; n++) {
            DUE.is("tick(" + n + ")", new MovingBlock().tick(n), n);
        }
        outside("tick(_)", 1, 8, n -> new MovingBlock().tick(n));
        outside("tick(_) with a train", 1, 8, n -> Setup.trains(1).tick(n));
    }

    /** measure 0 .. 7, state 0 .. 5, count 0 .. 5, "else REFUSED" */
    private static void whats() {
        for (int number = 1; number <= 4; number++) {
            MovingBlock x = Setup.trains(number);
            int last = number - 1;
            allInside("measure(" + last + ", _)", 0, 7, what -> x.measure(last, what));
            allInside("state(" + last + ", _)", 0, 5, what -> x.state(last, what));
            allInside("count(_)", 0, 5, x::count);
        }
    }

    /** "TRAINS are numbered 0 .. 3 as they enter": only those that have entered are trains. */
    private static void trainNumbers() {
        for (int number = 0; number <= 4; number++) {
            MovingBlock x = Setup.trains(number);
            DUE.is("trains", x.count(1), number);
            String among = " among " + number;
            allInside("demand(_, 1)" + among, 0, number - 1, n -> x.demand(n, 1));
            allInside("drift(_, 1)" + among, 0, number - 1, n -> x.drift(n, 1));
            allInside("radio(_, 1, 1)" + among, 0, number - 1, n -> x.radio(n, 1, 1));
            allInside("measure(_, 0)" + among, 0, number - 1, n -> x.measure(n, 0));
            allInside("state(_, 0)" + among, 0, number - 1, n -> x.state(n, 0));
            allInside("permitted(_)" + among, 0, number - 1, x::permitted);
        }
    }
}
