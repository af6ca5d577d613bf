import java.util.ArrayList;
import java.util.List;
import java.util.function.ToIntFunction;

/**
 * "Refused calls answer REFUSED and change nothing": of two equal objects one gets the refused call, and
 * both must give the same answers then and in the ticks behind it.
 */
public final class EdgesOfRefusalTest {
    private static final Due DUE = new Due("edges of refusal");

    private record Call(String name, ToIntFunction<MovingBlock> answer) {
    }

    public static void main(String[] args) {
        for (int trains = 0; trains <= 4; trains++) {
            List<Call> calls = refusedWith(trains);
            for (Call call : calls) {
                changesNothing(trains, List.of(call));
            }
            changesNothing(trains, calls);
        }
        refusedOnANewObject();
        DUE.end();
    }

    /** A busy line: nothing has the value it had at first, and messages are on the way. */
    private static MovingBlock busy(int trains) {
        MovingBlock x = Setup.trains(trains);
        for (int piece = 0; piece < 8; piece++) {
            x.piece(piece, 30 + piece, piece % 2 == 0 ? -1 : 1);
        }
        x.hold(0, 3900, true);
        x.hold(1, 1300, true);
        x.hold(3, 400, true);
        for (int train = 0; train < trains; train++) {
            x.demand(train, 1);
            x.drift(train, train - 2);
            x.radio(train, 2 + train % 2, 3 - train % 2);
        }
        x.tick(8);
        x.controller(1, false);
        x.tick(4);
        return x;
    }

    private static void changesNothing(int trains, List<Call> calls) {
        MovingBlock x = busy(trains);
        MovingBlock y = busy(trains);
        for (Call call : calls) {
            DUE.refused(call.name + " with " + trains + " trains", call.answer.applyAsInt(x));
        }
        String last = calls.get(calls.size() - 1).name + " with " + trains + " trains";
        same(last + ", at once", x, y);
        x.tick(1);
        y.tick(1);
        same(last + ", a tick later", x, y);
        x.controller(1, true);
        y.controller(1, true);
        x.tick(6);
        y.tick(6);
        same(last + ", some ticks later", x, y);
        DUE.is(last + ": controller 0 is up", x.controller(0, true), 0);
    }

    private static void same(String when, MovingBlock x, MovingBlock y) {
        int[] got = Setup.allAnswers(x);
        int[] due = Setup.allAnswers(y);
        for (int i = 0; i < due.length; i++) {
            DUE.is(when + ", answer " + i, got[i], due[i]);
        }
    }

    private static void add(List<Call> calls, String name, ToIntFunction<MovingBlock> answer) {
        calls.add(new Call(name, answer));
    }

    private static List<Call> refusedWith(int trains) {
        List<Call> calls = new ArrayList<>();
        addPieces(calls);
        addHoldsAndControllers(calls);
        addEnters(calls, trains);
        for (int train = 0; train < trains; train++) {
            addTrain(calls, train);
        }
        addNoTrain(calls, -1);
        addNoTrain(calls, trains);
        addNoTrain(calls, 4);
        add(calls, "tick(0)", x -> x.tick(0));
        add(calls, "tick(9)", x -> x.tick(9));
        add(calls, "tick(-1)", x -> x.tick(-1));
        add(calls, "count(-1)", x -> x.count(-1));
        add(calls, "count(6)", x -> x.count(6));
        return calls;
    }

    /** One number is wrong; the others would change something. */
    private static void addPieces(List<Call> calls) {
        add(calls, "piece(-1, 5, 0)", x -> x.piece(-1, 5, 0));
        add(calls, "piece(8, 5, 0)", x -> x.piece(8, 5, 0));
        for (int p = 0; p < 8; p++) {
            int piece = p;
            add(calls, "piece(" + piece + ", 0, 0)", x -> x.piece(piece, 0, 0));
            add(calls, "piece(" + piece + ", 41, 0)", x -> x.piece(piece, 41, 0));
            add(calls, "piece(" + piece + ", 5, -2)", x -> x.piece(piece, 5, -2));
            add(calls, "piece(" + piece + ", 5, 2)", x -> x.piece(piece, 5, 2));
        }
    }

    private static void addHoldsAndControllers(List<Call> calls) {
        add(calls, "hold(-1, 1200, true)", x -> x.hold(-1, 1200, true));
        add(calls, "hold(4, 1200, true)", x -> x.hold(4, 1200, true));
        for (int h = 0; h < 4; h++) {
            int hold = h;
            add(calls, "hold(" + hold + ", -1, false)", x -> x.hold(hold, -1, false));
            add(calls, "hold(" + hold + ", 4097, false)", x -> x.hold(hold, 4097, false));
            add(calls, "hold(" + hold + ", -1, true)", x -> x.hold(hold, -1, true));
            add(calls, "hold(" + hold + ", 4097, true)", x -> x.hold(hold, 4097, true));
        }
        add(calls, "controller(-1, false)", x -> x.controller(-1, false));
        add(calls, "controller(2, false)", x -> x.controller(2, false));
        add(calls, "controller(-1, true)", x -> x.controller(-1, true));
        add(calls, "controller(2, true)", x -> x.controller(2, true));
    }

    private static void addEnters(List<Call> calls, int trains) {
        add(calls, "enter(19, 50)", x -> x.enter(19, 50));
        add(calls, "enter(201, 300)", x -> x.enter(201, 300));
        add(calls, "enter(50, 49)", x -> x.enter(50, 49));
        add(calls, "enter(20, 4001)", x -> x.enter(20, 4001));
        if (trains > 0) {
            add(calls, "enter before the others", x -> x.enter(20, 4000));
        }
        if (trains == 4) {
            add(calls, "enter as the fifth", x -> x.enter(20, 30));
        }
    }

    private static void addTrain(List<Call> calls, int train) {
        add(calls, "demand(" + train + ", 2)", x -> x.demand(train, 2));
        add(calls, "demand(" + train + ", -2)", x -> x.demand(train, -2));
        add(calls, "drift(" + train + ", 3)", x -> x.drift(train, 3));
        add(calls, "drift(" + train + ", -3)", x -> x.drift(train, -3));
        add(calls, "radio(" + train + ", 0, 6)", x -> x.radio(train, 0, 6));
        add(calls, "radio(" + train + ", 0, -1)", x -> x.radio(train, 0, -1));
        add(calls, "radio(" + train + ", 6, 0)", x -> x.radio(train, 6, 0));
        add(calls, "radio(" + train + ", -1, 0)", x -> x.radio(train, -1, 0));
        add(calls, "measure(" + train + ", -1)", x -> x.measure(train, -1));
        add(calls, "measure(" + train + ", 8)", x -> x.measure(train, 8));
        add(calls, "state(" + train + ", -1)", x -> x.state(train, -1));
        add(calls, "state(" + train + ", 6)", x -> x.state(train, 6));
    }

    private static void addNoTrain(List<Call> calls, int train) {
        add(calls, "demand(" + train + ", -1)", x -> x.demand(train, -1));
        add(calls, "drift(" + train + ", 2)", x -> x.drift(train, 2));
        add(calls, "radio(" + train + ", 0, 0)", x -> x.radio(train, 0, 0));
        add(calls, "measure(" + train + ", 0)", x -> x.measure(train, 0));
        add(calls, "state(" + train + ", 0)", x -> x.state(train, 0));
        add(calls, "permitted(" + train + ")", x -> x.permitted(train));
    }

    /** What was refused before a train entered does not hang on the train that enters then. */
    private static void refusedOnANewObject() {
        MovingBlock x = new MovingBlock();
        DUE.refused("demand(0, 1)", x.demand(0, 1));
        DUE.refused("drift(0, 2)", x.drift(0, 2));
        DUE.refused("radio(0, 0, 0)", x.radio(0, 0, 0));
        DUE.refused("enter(19, 1000)", x.enter(19, 1000));
        DUE.is("enter(20, 1000)", x.enter(20, 1000), 0);
        x.tick(3);
        DUE.is("the demand is 0", x.measure(0, 1), 0);
        DUE.is("the delays are 1", x.state(0, 2), 3);
        x.demand(0, 1);
        x.tick(1);
        DUE.is("the drift is 0", x.measure(0, 2), 8002);
    }
}
