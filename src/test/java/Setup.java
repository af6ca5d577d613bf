/** What several tests need to put a train, its reach or its tail on an exact eighth. */
final class Setup {
    static final int LINE_END = 32768;

    private Setup() {
    }

    static MovingBlock oneTrain(int length, int front) {
        MovingBlock x = new MovingBlock();
        x.enter(length, front);
        return x;
    }

    /** Short trains at 3100, 2100, 1100 and 100 m, as many of them as are asked for. */
    static MovingBlock trains(int number) {
        MovingBlock x = new MovingBlock();
        for (int i = 0; i < number; i++) {
            x.enter(20, 3100 - 1000 * i);
        }
        return x;
    }

    /** Edge of a piece (or of the line) in eighths. */
    static int edge(int piece) {
        return 512 * 8 * piece;
    }

    /**
     * Sets train 0, which stands in the piece with the demand 0, rolling: its speed is then 2 eighths,
     * which it keeps on the level, and its way in this tick was 1 eighth.
     */
    static void roll(MovingBlock x, int piece) {
        x.piece(piece, 40, -1);
        x.tick(1);
        x.piece(piece, 40, 0);
    }

    /** A tick of train 0 for each drift: the reach goes on by the way and drift + 2 eighths. */
    static void ticksWithDrifts(MovingBlock x, int... drifts) {
        for (int drift : drifts) {
            x.drift(0, drift);
            x.tick(1);
        }
    }

    static int reach(MovingBlock x, int train) {
        return x.measure(train, 2) + x.measure(train, 3);
    }

    /** The tail is what lies as far below the true rear as estimate less doubt lies below the front. */
    static int tail(MovingBlock x, int train) {
        return x.measure(train, 2) - x.measure(train, 3) - (x.measure(train, 0) - x.measure(train, 7));
    }

    /** Every answer that an object can give without being changed: 66 calls. */
    static int[] allAnswers(MovingBlock x) {
        int[] answers = new int[4 * 15 + 6];
        int n = 0;
        for (int train = 0; train < 4; train++) {
            for (int what = 0; what <= 7; what++) {
                answers[n++] = x.measure(train, what);
            }
            for (int what = 0; what <= 5; what++) {
                answers[n++] = x.state(train, what);
            }
            answers[n++] = x.permitted(train);
        }
        for (int what = 0; what <= 5; what++) {
            answers[n++] = x.count(what);
        }
        return answers;
    }
}
