public final class Promise06DemandTest {
    private static final Due DUE = new Due("demand");

    public static void main(String[] args) {
        ranges();
        pulls();
        DUE.end();
    }

    private static void ranges() {
        MovingBlock x = new MovingBlock();
        DUE.refused("no train", x.demand(0, 0));
        x.enter(50, 1000);
        for (int demand = -1; demand <= 1; demand++) {
            DUE.is("demand(0, " + demand + ")", x.demand(0, demand), 1);
            DUE.is("demand(0, " + demand + ") again", x.demand(0, demand), 1);
        }
        DUE.refused("demand(0, 2)", x.demand(0, 2));
        DUE.refused("demand(0, -2)", x.demand(0, -2));
        DUE.refused("demand(1, 0)", x.demand(1, 0));
        DUE.refused("demand(-1, 0)", x.demand(-1, 0));
        DUE.refused("demand(4, 0)", x.demand(4, 0));
        DUE.refused("demand(MAX, MAX)", x.demand(Integer.MAX_VALUE, Integer.MAX_VALUE));
        DUE.refused("demand(MIN, MIN)", x.demand(Integer.MIN_VALUE, Integer.MIN_VALUE));
        x.tick(1);
        DUE.is("demand 1 is left behind refused calls", x.measure(0, 1), 4);
    }

    private static void pulls() {
        MovingBlock x = new MovingBlock();
        x.enter(50, 2000);
        x.enter(50, 1000);
        x.demand(0, 1);
        x.tick(5);
        DUE.is("demand 1", x.measure(0, 1), 20);
        DUE.is("other train", x.measure(1, 1), 0);
        DUE.is("way", x.measure(0, 0), 16050);
        x.demand(0, 0);
        x.tick(1);
        DUE.is("demand 0", x.measure(0, 1), 20);
        DUE.is("way", x.measure(0, 0), 16070);
        x.demand(0, -1);
        x.tick(1);
        DUE.is("demand -1", x.measure(0, 1), 12);
        DUE.is("way", x.measure(0, 0), 16086);
        x.tick(2);
        DUE.is("not below 0", x.measure(0, 1), 0);
        DUE.is("way", x.measure(0, 0), 16096);
        DUE.is("no emergency", x.state(0, 3), 0);
    }
}
