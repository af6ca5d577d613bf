/**
 * Trains that follow one another on a line without fixed blocks.
 *
 * All lengths are held in eighths of a metre and all speeds in eighths of a metre a second, so that
 * every rule of the document is exact in int arithmetic.
 */
public final class MovingBlock {
    public static final int REFUSED = -1000000;

    private static final int NONE = -1;
    private static final int METRE = 8;
    private static final int LINE_METRES = 4096;
    private static final int LINE_END = LINE_METRES * METRE;
    private static final int TRAINS = 4;
    private static final int MIN_LENGTH = 20;
    private static final int MAX_LENGTH = 200;
    private static final int LAST_ENTRY = 4000;
    private static final int GAP = 8 * METRE;
    private static final int MAX_DRIFT = 2;
    private static final int MAX_DELAY = 5;
    private static final int MAX_TICKS = 8;

    private final Track track;
    private final Wayside wayside;
    private final Train[] trains;
    private int entered;
    private int clock;

    public MovingBlock() {
        track = new Track();
        wayside = new Wayside();
        trains = new Train[TRAINS];
        for (int i = 0; i < TRAINS; i++) {
            trains[i] = new Train();
        }
    }

    public int piece(int piece, int limit, int grade) {
        if (isOutside(piece, 0, Track.PIECES - 1) || isOutside(limit, 1, Track.MAX_LIMIT)
                || isOutside(grade, -1, 1)) {
            return REFUSED;
        }
        track.limits[piece] = limit * METRE;
        track.grades[piece] = grade;
        return 1;
    }

    public int hold(int hold, int place, boolean closed) {
        if (isOutside(hold, 0, Wayside.HOLDS - 1) || isOutside(place, 0, LINE_METRES)) {
            return REFUSED;
        }
        wayside.places[hold] = place * METRE;
        wayside.closed[hold] = closed;
        return 1;
    }

    public int controller(int zone, boolean up) {
        if (isOutside(zone, 0, Wayside.ZONES - 1)) {
            return REFUSED;
        }
        if (wayside.up[zone] == up) {
            return 0;
        }
        wayside.up[zone] = up;
        return 1;
    }

    public int enter(int length, int front) {
        if (isOutside(length, MIN_LENGTH, MAX_LENGTH) || isOutside(front, length, LAST_ENTRY)
                || entered >= TRAINS) {
            return REFUSED;
        }
        if (entered > 0 && front * METRE > trains[entered - 1].rear() - GAP) {
            return REFUSED;
        }
        trains[entered].place(length * METRE, front * METRE);
        entered++;
        return entered - 1;
    }

    public int demand(int train, int demand) {
        if (isNoTrain(train) || isOutside(demand, -1, 1)) {
            return REFUSED;
        }
        trains[train].demand = demand;
        return 1;
    }

    public int drift(int train, int drift) {
        if (isNoTrain(train) || isOutside(drift, -MAX_DRIFT, MAX_DRIFT)) {
            return REFUSED;
        }
        trains[train].drift = drift;
        return 1;
    }

    public int radio(int train, int up, int down) {
        if (isNoTrain(train) || isOutside(up, 0, MAX_DELAY) || isOutside(down, 0, MAX_DELAY)) {
            return REFUSED;
        }
        trains[train].reports.delay = up;
        trains[train].authorities.delay = down;
        return 1;
    }

    public int tick(int n) {
        if (isOutside(n, 1, MAX_TICKS)) {
            return REFUSED;
        }
        for (int i = 0; i < n; i++) {
            passOneSecond();
        }
        return clock;
    }

    public int measure(int train, int what) {
        if (isNoTrain(train)) {
            return REFUSED;
        }
        Train t = trains[train];
        switch (what) {
            case 0: return t.front;
            case 1: return t.speed;
            case 2: return t.estimate;
            case 3: return t.doubt;
            case 4: return t.authorities.wasTaken() ? t.authorities.first : NONE;
            case 5: return t.reports.wasTaken() ? t.reports.first : NONE;
            case 6: return t.reports.wasTaken() ? t.reports.second : NONE;
            case 7: return t.rear();
            default: return REFUSED;
        }
    }

    public int state(int train, int what) {
        if (isNoTrain(train)) {
            return REFUSED;
        }
        Train t = trains[train];
        switch (what) {
            case 0: return t.emergency ? 1 : 0;
            case 1: return t.reports.stamp;
            case 2: return t.authorities.stamp;
            case 3: return t.emergencies;
            case 4: return t.messagesOnTheWay(clock);
            case 5: return Track.pieceAt(t.front);
            default: return REFUSED;
        }
    }

    public int permitted(int train) {
        if (isNoTrain(train)) {
            return REFUSED;
        }
        return trains[train].greatestSafeSpeed(track);
    }

    public int count(int what) {
        switch (what) {
            case 0: return clock;
            case 1: return entered;
            case 2: return trainsBeyondTheOneBefore();
            case 3: return messagesOnTheWay();
            case 4: return messagesLost();
            case 5: return messagesNotTaken();
            default: return REFUSED;
        }
    }

    private static boolean isOutside(int number, int least, int greatest) {
        return number < least || number > greatest;
    }

    private boolean isNoTrain(int train) {
        return isOutside(train, 0, entered - 1);
    }

    private void passOneSecond() {
        clock++;
        for (int i = 0; i < entered; i++) {
            trains[i].sendReport(clock);
        }
        for (int i = 0; i < entered; i++) {
            trains[i].reports.receive(clock);
        }
        for (int i = 0; i < entered; i++) {
            sendAuthority(i);
        }
        for (int i = 0; i < entered; i++) {
            trains[i].authorities.receive(clock);
        }
        for (int i = 0; i < entered; i++) {
            trains[i].drive(clock, track);
        }
    }

    private void sendAuthority(int train) {
        Channel reports = trains[train].reports;
        if (!reports.wasTaken() || !wayside.isUpAt(reports.first)) {
            return;
        }
        int authority = Math.min(wayside.endFor(reports.first), endBehindTrainsAhead(train));
        trains[train].authorities.send(clock, authority, 0);
    }

    private int endBehindTrainsAhead(int train) {
        int end = LINE_END;
        for (int i = 0; i < train; i++) {
            Channel reports = trains[i].reports;
            end = Math.min(end, reports.wasTaken() ? reports.second - GAP : 0);
        }
        return end;
    }

    private int trainsBeyondTheOneBefore() {
        int beyond = 0;
        for (int i = 1; i < entered; i++) {
            if (trains[i].front > trains[i - 1].rear()) {
                beyond++;
            }
        }
        return beyond;
    }

    private int messagesOnTheWay() {
        int sum = 0;
        for (int i = 0; i < entered; i++) {
            sum += trains[i].messagesOnTheWay(clock);
        }
        return sum;
    }

    private int messagesLost() {
        int sum = 0;
        for (int i = 0; i < entered; i++) {
            sum += trains[i].reports.lost + trains[i].authorities.lost;
        }
        return sum;
    }

    private int messagesNotTaken() {
        int sum = 0;
        for (int i = 0; i < entered; i++) {
            sum += trains[i].reports.notTaken + trains[i].authorities.notTaken;
        }
        return sum;
    }

    /** The pieces of the line, and how fast a train may be because of them and of its authority. */
    private static final class Track {
        static final int PIECES = 8;
        static final int MAX_LIMIT = 40;
        static final int PIECE_LENGTH = LINE_END / PIECES;
        /** 1.5 (metres a second squared, times a way in metres) where all is told in eighths. */
        static final int SQUARE_PER_WAY = 12;

        final int[] limits;
        final int[] grades;

        Track() {
            limits = new int[PIECES];
            grades = new int[PIECES];
            for (int i = 0; i < PIECES; i++) {
                limits[i] = MAX_LIMIT * METRE;
            }
        }

        static int pieceAt(int place) {
            if (place < 0) {
                return 0;
            }
            return place < LINE_END ? place / PIECE_LENGTH : PIECES - 1;
        }

        /**
         * The square that the square of a safe speed does not exceed; below 0 if no speed is safe.
         * Limits are squared too, so that one number stands for all the conditions.
         */
        int greatestSafeSquare(int authority, int reach, int tail) {
            int square = SQUARE_PER_WAY * (authority - reach);
            int last = pieceAt(reach);
            for (int i = pieceAt(tail); i < PIECES; i++) {
                int wayBefore = i > last ? i * PIECE_LENGTH - reach : 0;
                square = Math.min(square, limits[i] * limits[i] + SQUARE_PER_WAY * wayBefore);
            }
            return square;
        }
    }

    /** The holds and the zone controllers. */
    private static final class Wayside {
        static final int HOLDS = 4;
        static final int ZONES = 2;
        static final int ZONE_BORDER = LINE_END / 2;

        final int[] places;
        final boolean[] closed;
        final boolean[] up;

        Wayside() {
            places = new int[HOLDS];
            closed = new boolean[HOLDS];
            up = new boolean[ZONES];
            for (int i = 0; i < HOLDS; i++) {
                places[i] = LINE_END;
            }
            for (int i = 0; i < ZONES; i++) {
                up[i] = true;
            }
        }

        boolean isUpAt(int reach) {
            return up[reach < ZONE_BORDER ? 0 : 1];
        }

        /** How far a train with this reported reach may go as if no train were ahead of it. */
        int endFor(int reach) {
            int end = reach < ZONE_BORDER && !up[1] ? ZONE_BORDER : LINE_END;
            for (int i = 0; i < HOLDS; i++) {
                if (closed[i] && places[i] >= reach) {
                    end = Math.min(end, places[i]);
                }
            }
            return end;
        }
    }

    /** The messages of one kind for one train: those on the way, and the one that was taken last. */
    private static final class Channel {
        /** One message a tick, each under way for less than this many ticks: a slot is free again in time. */
        static final int SLOTS = MAX_DELAY;

        final int[] stamps;
        final int[] arrivals;
        final int[] firsts;
        final int[] seconds;
        int delay;
        int stamp;
        int first;
        int second;
        int lost;
        int notTaken;

        Channel() {
            stamps = new int[SLOTS];
            arrivals = new int[SLOTS];
            firsts = new int[SLOTS];
            seconds = new int[SLOTS];
            delay = 1;
        }

        boolean wasTaken() {
            return stamp > 0;
        }

        void send(int clock, int sentFirst, int sentSecond) {
            if (delay == 0) {
                lost++;
                return;
            }
            int slot = Math.floorMod(clock, SLOTS);
            stamps[slot] = clock;
            arrivals[slot] = clock + delay - 1;
            firsts[slot] = sentFirst;
            seconds[slot] = sentSecond;
        }

        /** The slot behind the clock's own is the oldest, so this goes in the order of sending. */
        void receive(int clock) {
            for (int i = 1; i <= SLOTS; i++) {
                int slot = Math.floorMod(clock + i, SLOTS);
                if (arrivals[slot] == clock) {
                    takeIfNewer(slot);
                }
            }
        }

        void takeIfNewer(int slot) {
            if (stamps[slot] <= stamp) {
                notTaken++;
                return;
            }
            stamp = stamps[slot];
            first = firsts[slot];
            second = seconds[slot];
        }

        int onTheWay(int clock) {
            int sum = 0;
            for (int i = 0; i < SLOTS; i++) {
                if (arrivals[i] > clock) {
                    sum++;
                }
            }
            return sum;
        }
    }

    /** A train and its on-board unit. */
    private static final class Train {
        static final int SPEED_STEP = 2;
        static final int TOP_SPEED = Track.MAX_LIMIT * METRE;
        static final int OLDEST_AUTHORITY = 5;
        static final int PULL_EMERGENCY = -12;
        static final int PULL_BRAKE = -8;
        static final int PULL_DRIVE = 4;
        static final int PULL_PER_GRADE = 2;
        static final int DOUBT_PER_TICK = 2;

        /** A report's two numbers are the reach and the tail. */
        final Channel reports;
        /** An authority has one number only. */
        final Channel authorities;
        int length;
        int front;
        int speed;
        int estimate;
        int doubt;
        int demand;
        int drift;
        boolean emergency;
        int emergencies;

        Train() {
            reports = new Channel();
            authorities = new Channel();
        }

        void place(int ownLength, int ownFront) {
            length = ownLength;
            front = ownFront;
            estimate = ownFront;
        }

        int rear() {
            return front - length;
        }

        int reach() {
            return estimate + doubt;
        }

        int tail() {
            return estimate - doubt - length;
        }

        int messagesOnTheWay(int clock) {
            return reports.onTheWay(clock) + authorities.onTheWay(clock);
        }

        void sendReport(int clock) {
            reports.send(clock, reach(), tail());
        }

        void drive(int clock, Track track) {
            boolean authorised = hasFreshAuthority(clock);
            if (!emergency && speed != 0
                    && !(authorised && speed * speed <= greatestSafeSquareHere(track))) {
                emergency = true;
                emergencies++;
            }
            int pull = emergency ? PULL_EMERGENCY : pullByDemand(authorised, track);
            move(speedAfter(pull, track));
            if (speed == 0) {
                emergency = false;
            }
        }

        boolean hasFreshAuthority(int clock) {
            return authorities.wasTaken() && clock - authorities.stamp <= OLDEST_AUTHORITY;
        }

        /** Below 0 if no speed is safe, as without an authority. */
        int greatestSafeSquareHere(Track track) {
            return authorities.wasTaken()
                    ? track.greatestSafeSquare(authorities.first, reach(), tail()) : NONE;
        }

        int pullByDemand(boolean authorised, Track track) {
            if (demand < 0) {
                return PULL_BRAKE;
            }
            int pull = demand > 0 ? PULL_DRIVE : 0;
            return authorised && staysSafe(pull, track) ? pull : PULL_BRAKE;
        }

        /**
         * Whether a train with an authority would be safe behind the tick. The on-board unit does not
         * know the drift: it counts on the way and on more doubt alone.
         */
        boolean staysSafe(int pull, Track track) {
            int next = speedAfter(pull, track);
            int way = wayTo(next);
            int more = way == 0 ? 0 : DOUBT_PER_TICK;
            return next * next <= track.greatestSafeSquare(
                    authorities.first, reach() + way + more, tail() + way - more);
        }

        int speedAfter(int pull, Track track) {
            return Math.max(0, speed + pull - PULL_PER_GRADE * track.grades[Track.pieceAt(front)]);
        }

        /** Exact, as every speed is a whole number of quarters and so even in eighths. */
        int wayTo(int next) {
            return (speed + next) / 2;
        }

        void move(int next) {
            int way = wayTo(next);
            int pieceBefore = Track.pieceAt(front);
            speed = next;
            if (way == 0) {
                return;
            }
            front += way;
            estimate += way + drift;
            doubt += DOUBT_PER_TICK;
            if (Track.pieceAt(front) != pieceBefore) {
                estimate = front;
                doubt = 0;
            }
        }

        int greatestSafeSpeed(Track track) {
            int square = greatestSafeSquareHere(track);
            for (int v = TOP_SPEED; v >= 0; v -= SPEED_STEP) {
                if (v * v <= square) {
                    return v;
                }
            }
            return NONE;
        }
    }
}
