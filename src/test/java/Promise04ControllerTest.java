public final class Promise04ControllerTest {
    private static final Due DUE = new Due("controller");

    public static void main(String[] args) {
        answers();
        downSendsNothing();
        zoneOfTheReportedReach();
        zoneOneDownEndsZoneZero();
        DUE.end();
    }

    private static void answers() {
        MovingBlock x = new MovingBlock();
        for (int zone = 0; zone <= 1; zone++) {
            DUE.is("up again", x.controller(zone, true), 0);
            DUE.is("down", x.controller(zone, false), 1);
            DUE.is("down again", x.controller(zone, false), 0);
            DUE.is("up", x.controller(zone, true), 1);
        }
        DUE.refused("controller(-1, true)", x.controller(-1, true));
        DUE.refused("controller(2, false)", x.controller(2, false));
        DUE.refused("controller(MAX, false)", x.controller(Integer.MAX_VALUE, false));
        DUE.refused("controller(MIN, false)", x.controller(Integer.MIN_VALUE, false));
        DUE.is("still up", x.controller(0, true) + x.controller(1, true), 0);
    }

    private static void downSendsNothing() {
        MovingBlock x = new MovingBlock();
        x.enter(50, 1000);
        x.radio(0, 1, 0);
        x.controller(0, false);
        x.tick(5);
        DUE.is("the report is taken all the same", x.state(0, 1), 5);
        DUE.is("no authority", x.measure(0, 4), -1);
        DUE.is("no authority sent, so none lost", x.count(4), 0);
        x.controller(0, true);
        x.tick(1);
        DUE.is("an authority is sent and lost", x.count(4), 1);
    }

    private static int stampOfAuthority(int front, boolean up0, boolean up1) {
        MovingBlock x = new MovingBlock();
        x.enter(50, front);
        x.controller(0, up0);
        x.controller(1, up1);
        x.tick(2);
        return x.state(0, 2);
    }

    private static void zoneOfTheReportedReach() {
        DUE.is("2047, 0 up", stampOfAuthority(2047, true, false), 2);
        DUE.is("2047, 0 down", stampOfAuthority(2047, false, true), 0);
        DUE.is("2048, 1 up", stampOfAuthority(2048, false, true), 2);
        DUE.is("2048, 1 down", stampOfAuthority(2048, true, false), 0);
        DUE.is("both down", stampOfAuthority(2048, false, false), 0);
    }

    private static void zoneOneDownEndsZoneZero() {
        MovingBlock x = new MovingBlock();
        x.enter(50, 3000);
        x.enter(50, 2047);
        x.tick(1);
        DUE.is("behind train 0", x.measure(1, 4), 23536);
        x.controller(1, false);
        x.tick(1);
        DUE.is("the border", x.measure(1, 4), 16384);
        x.hold(0, 2047, true);
        x.tick(1);
        DUE.is("a hold before the border", x.measure(1, 4), 16376);
        x.hold(0, 2047, false);
        x.controller(1, true);
        x.controller(0, false);
        x.tick(1);
        DUE.is("zone 0 down: none is sent", x.state(1, 2), 3);
        x.controller(0, true);
        x.tick(1);
        DUE.is("both up", x.measure(1, 4), 23536);
    }
}
