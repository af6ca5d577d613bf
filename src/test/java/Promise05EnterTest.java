public final class Promise05EnterTest {
    private static final Due DUE = new Due("enter");

    public static void main(String[] args) {
        ranges();
        numbersAndFirstState();
        gap();
        gapByTheTrueRear();
        atMostFour();
        DUE.end();
    }

    private static int first(int length, int front) {
        MovingBlock x = new MovingBlock();
        int answer = x.enter(length, front);
        DUE.is("trains behind enter(" + length + ", " + front + ")", x.count(1), answer == 0 ? 1 : 0);
        return answer;
    }

    private static void ranges() {
        DUE.is("enter(20, 20)", first(20, 20), 0);
        DUE.is("enter(200, 200)", first(200, 200), 0);
        DUE.is("enter(20, 4000)", first(20, 4000), 0);
        DUE.is("enter(200, 4000)", first(200, 4000), 0);
        DUE.refused("enter(19, 100)", first(19, 100));
        DUE.refused("enter(201, 1000)", first(201, 1000));
        DUE.refused("enter(20, 19)", first(20, 19));
        DUE.refused("enter(200, 199)", first(200, 199));
        DUE.refused("enter(100, 4001)", first(100, 4001));
        DUE.refused("enter(0, 0)", first(0, 0));
        DUE.refused("enter(-20, 100)", first(-20, 100));
        DUE.refused("enter(MAX, MAX)", first(Integer.MAX_VALUE, Integer.MAX_VALUE));
        DUE.refused("enter(MIN, MIN)", first(Integer.MIN_VALUE, Integer.MIN_VALUE));
        DUE.refused("enter(100, MAX)", first(100, Integer.MAX_VALUE));
    }

    private static void numbersAndFirstState() {
        MovingBlock x = new MovingBlock();
        x.tick(5);
        DUE.is("enter(100, 700)", x.enter(100, 700), 0);
        DUE.is("enter(30, 500)", x.enter(30, 500), 1);
        int[] measures = {4000, 0, 4000, 0, -1, -1, -1, 3760};
        for (int what = 0; what < measures.length; what++) {
            DUE.is("measure(1, " + what + ")", x.measure(1, what), measures[what]);
        }
        for (int what = 0; what <= 5; what++) {
            DUE.is("state(1, " + what + ")", x.state(1, what), 0);
        }
        DUE.is("state(0, 5)", x.state(0, 5), 1);
        DUE.is("permitted(1)", x.permitted(1), -1);
    }

    private static void gap() {
        MovingBlock x = new MovingBlock();
        x.enter(50, 1000);
        DUE.refused("7 m behind", x.enter(20, 943));
        DUE.refused("in front", x.enter(20, 2000));
        DUE.is("trains", x.count(1), 1);
        DUE.is("8 m behind", x.enter(20, 942), 1);
        DUE.refused("8 m behind train 0", x.enter(20, 942));
        DUE.refused("7 m behind train 1", x.enter(20, 915));
        DUE.is("8 m behind train 1", x.enter(20, 914), 2);
    }

    /** The train ahead believes itself elsewhere than it is; only its true rear counts. */
    private static void gapByTheTrueRear() {
        MovingBlock x = new MovingBlock();
        x.enter(20, 100);
        x.demand(0, 1);
        x.drift(0, -2);
        x.tick(8);
        DUE.is("front", x.measure(0, 0), 928);
        DUE.is("estimate", x.measure(0, 2), 912);
        DUE.refused("above 928 - 160 - 64", x.enter(20, 89));
        DUE.is("at 928 - 160 - 64", x.enter(20, 88), 1);
    }

    private static void atMostFour() {
        MovingBlock x = new MovingBlock();
        for (int i = 0; i < 4; i++) {
            DUE.is("enter", x.enter(20, 4000 - 100 * i), i);
        }
        DUE.refused("the fifth", x.enter(20, 100));
        DUE.is("trains", x.count(1), 4);
        DUE.is("last train", x.measure(3, 0), 29600);
        DUE.refused("measure(4, 0)", x.measure(4, 0));
    }
}
