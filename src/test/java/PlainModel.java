import java.util.ArrayList;
import java.util.List;

/**
 * The document a second time, told as plainly as can be: in metres and seconds (all numbers are small
 * multiples of 1/64, so doubles are exact), with a list of messages in the order of sending.
 */
final class PlainModel {
    static final int REFUSED = -1000000;

    static final class Train {
        double length;
        double front;
        double speed;
        double estimate;
        double doubt;
        int demand;
        int drift;
        int up = 1;
        int down = 1;
        boolean emergency;
        int emergencies;
        Message report;
        Message authority;

        double reach() {
            return estimate + doubt;
        }

        double tail() {
            return estimate - doubt - length;
        }
    }

    static final class Message {
        boolean isReport;
        Train train;
        int stamp;
        int arrives;
        double reach;
        double tail;
        double authority;
    }

    final List<Train> trains = new ArrayList<>();
    final List<Message> messages = new ArrayList<>();
    final int[] limit = {40, 40, 40, 40, 40, 40, 40, 40};
    final int[] grade = new int[8];
    final int[] place = {4096, 4096, 4096, 4096};
    final boolean[] closed = new boolean[4];
    final boolean[] up = {true, true};
    int clock;
    int lost;
    int notTaken;

    int piece(int piece, int newLimit, int newGrade) {
        if (piece < 0 || piece > 7 || newLimit < 1 || newLimit > 40 || newGrade < -1 || newGrade > 1) {
            return REFUSED;
        }
        limit[piece] = newLimit;
        grade[piece] = newGrade;
        return 1;
    }

    int hold(int hold, int newPlace, boolean newClosed) {
        if (hold < 0 || hold > 3 || newPlace < 0 || newPlace > 4096) {
            return REFUSED;
        }
        place[hold] = newPlace;
        closed[hold] = newClosed;
        return 1;
    }

    int controller(int zone, boolean newUp) {
        if (zone < 0 || zone > 1) {
            return REFUSED;
        }
        boolean changes = up[zone] != newUp;
        up[zone] = newUp;
        return changes ? 1 : 0;
    }

    int enter(int length, int front) {
        if (length < 20 || length > 200 || front < length || front > 4000 || trains.size() == 4) {
            return REFUSED;
        }
        if (!trains.isEmpty()) {
            Train before = trains.get(trains.size() - 1);
            if (front > before.front - before.length - 8) {
                return REFUSED;
            }
        }
        Train t = new Train();
        t.length = length;
        t.front = front;
        t.estimate = front;
        trains.add(t);
        return trains.size() - 1;
    }

    boolean isTrain(int train) {
        return train >= 0 && train < trains.size();
    }

    int demand(int train, int demand) {
        if (!isTrain(train) || demand < -1 || demand > 1) {
            return REFUSED;
        }
        trains.get(train).demand = demand;
        return 1;
    }

    int drift(int train, int drift) {
        if (!isTrain(train) || drift < -2 || drift > 2) {
            return REFUSED;
        }
        trains.get(train).drift = drift;
        return 1;
    }

    int radio(int train, int newUp, int newDown) {
        if (!isTrain(train) || newUp < 0 || newUp > 5 || newDown < 0 || newDown > 5) {
            return REFUSED;
        }
        trains.get(train).up = newUp;
        trains.get(train).down = newDown;
        return 1;
    }

    int tick(int n) {
        if (n < 1 || n > 8) {
            return REFUSED;
        }
        for (int i = 0; i < n; i++) {
            clock++;
            for (Train t : trains) {
                Message m = new Message();
                m.isReport = true;
                m.reach = t.reach();
                m.tail = t.tail();
                send(m, t, t.up);
            }
            arrivals(true);
            for (int k = 0; k < trains.size(); k++) {
                Train t = trains.get(k);
                if (t.report != null && up[t.report.reach < 2048 ? 0 : 1]) {
                    Message m = new Message();
                    m.authority = authorityFor(k);
                    send(m, t, t.down);
                }
            }
            arrivals(false);
            for (Train t : trains) {
                drive(t);
            }
        }
        return clock;
    }

    void send(Message m, Train t, int delay) {
        if (delay == 0) {
            lost++;
            return;
        }
        m.train = t;
        m.stamp = clock;
        m.arrives = clock + delay - 1;
        messages.add(m);
    }

    void arrivals(boolean reports) {
        List<Message> now = new ArrayList<>();
        for (Message m : messages) {
            if (m.isReport == reports && m.arrives == clock) {
                now.add(m);
            }
        }
        messages.removeAll(now);
        for (Message m : now) {
            Message last = reports ? m.train.report : m.train.authority;
            if (last != null && m.stamp <= last.stamp) {
                notTaken++;
            } else if (reports) {
                m.train.report = m;
            } else {
                m.train.authority = m;
            }
        }
    }

    double authorityFor(int train) {
        double reach = trains.get(train).report.reach;
        double least = 4096;
        for (int h = 0; h < 4; h++) {
            if (closed[h] && place[h] >= reach && place[h] < least) {
                least = place[h];
            }
        }
        if (reach < 2048 && !up[1] && least > 2048) {
            least = 2048;
        }
        for (int k = 0; k < train; k++) {
            Message ahead = trains.get(k).report;
            double end = ahead == null ? 0 : ahead.tail - 8;
            if (end < least) {
                least = end;
            }
        }
        return least;
    }

    static int pieceOf(double place) {
        for (int k = 7; k > 0; k--) {
            if (place >= 512 * k) {
                return k;
            }
        }
        return 0;
    }

    boolean safe(Train t, double v, double reach, double tail) {
        if (t.authority == null || v * v > 1.5 * (t.authority.authority - reach)) {
            return false;
        }
        for (int k = 0; k < 8; k++) {
            boolean lies = k >= pieceOf(tail) && k <= pieceOf(reach);
            if (lies && v > limit[k]) {
                return false;
            }
            if (k > pieceOf(reach) && v * v > limit[k] * limit[k] + 1.5 * (512 * k - reach)) {
                return false;
            }
        }
        return true;
    }

    double nextSpeed(Train t, double pull) {
        double v = t.speed + pull - 0.25 * grade[pieceOf(t.front)];
        return v < 0 ? 0 : v;
    }

    void drive(Train t) {
        boolean missing = t.authority == null || t.authority.stamp < clock - 5;
        if (!t.emergency && t.speed > 0 && (missing || !safe(t, t.speed, t.reach(), t.tail()))) {
            t.emergency = true;
            t.emergencies++;
        }
        double pull = t.demand == 1 ? 0.5 : t.demand;
        if (t.emergency) {
            pull = -1.5;
        } else if (t.demand != -1) {
            double v = nextSpeed(t, pull);
            double way = (t.speed + v) / 2;
            double doubt = t.doubt + (way != 0 ? 0.25 : 0);
            double estimate = t.estimate + way;
            if (missing || !safe(t, v, estimate + doubt, estimate - doubt - t.length)) {
                pull = -1;
            }
        }
        double v = nextSpeed(t, pull);
        double way = (t.speed + v) / 2;
        int piece = pieceOf(t.front);
        t.speed = v;
        t.front += way;
        if (way != 0) {
            t.estimate += way + t.drift / 8.0;
            t.doubt += 0.25;
        }
        if (pieceOf(t.front) != piece) {
            t.estimate = t.front;
            t.doubt = 0;
        }
        if (t.speed == 0) {
            t.emergency = false;
        }
    }

    static int eighths(double number) {
        int whole = (int) (number * 8);
        if (whole != number * 8) {
            throw new IllegalStateException("not a multiple of an eighth: " + number);
        }
        return whole;
    }

    int measure(int train, int what) {
        if (!isTrain(train) || what < 0 || what > 7) {
            return REFUSED;
        }
        Train t = trains.get(train);
        return switch (what) {
            case 0 -> eighths(t.front);
            case 1 -> eighths(t.speed);
            case 2 -> eighths(t.estimate);
            case 3 -> eighths(t.doubt);
            case 4 -> t.authority == null ? -1 : eighths(t.authority.authority);
            case 5 -> t.report == null ? -1 : eighths(t.report.reach);
            case 6 -> t.report == null ? -1 : eighths(t.report.tail);
            default -> eighths(t.front - t.length);
        };
    }

    int state(int train, int what) {
        if (!isTrain(train) || what < 0 || what > 5) {
            return REFUSED;
        }
        Train t = trains.get(train);
        return switch (what) {
            case 0 -> t.emergency ? 1 : 0;
            case 1 -> t.report == null ? 0 : t.report.stamp;
            case 2 -> t.authority == null ? 0 : t.authority.stamp;
            case 3 -> t.emergencies;
            case 4 -> (int) messages.stream().filter(m -> m.train == t).count();
            default -> pieceOf(t.front);
        };
    }

    int permitted(int train) {
        if (!isTrain(train)) {
            return REFUSED;
        }
        Train t = trains.get(train);
        for (double v = 40; v >= 0; v -= 0.25) {
            if (safe(t, v, t.reach(), t.tail())) {
                return eighths(v);
            }
        }
        return -1;
    }

    int count(int what) {
        return switch (what) {
            case 0 -> clock;
            case 1 -> trains.size();
            case 2 -> beyond();
            case 3 -> messages.size();
            case 4 -> lost;
            case 5 -> notTaken;
            default -> REFUSED;
        };
    }

    int beyond() {
        int beyond = 0;
        for (int k = 1; k < trains.size(); k++) {
            Train before = trains.get(k - 1);
            if (trains.get(k).front > before.front - before.length) {
                beyond++;
            }
        }
        return beyond;
    }
}
