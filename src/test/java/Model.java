import java.util.ArrayList;
import java.util.List;

/**
 * The document once more, written apart from the class: objects and lists instead of rows and
 * masks, climbing from bus to bus, sorting by a comparator, and copies of everything for undo.
 */
final class Model {
    static final double INFINITE = Double.POSITIVE_INFINITY;

    static final class Line implements Cloneable {
        int number;
        int fromBus;
        double impedance;
        int load = 0;
        int pickup = 100;
        int curve = 0;
        int steps = 1;
        int instantaneous = 0;
        int shots = 0;
        boolean stuck = false;
        boolean open = false;

        Line copy() {
            try {
                return (Line) clone();
            } catch (CloneNotSupportedException e) {
                throw new AssertionError(e);
            }
        }
    }

    record Event(int code, double time) {
    }

    record Trip(Line line, double time) {
    }

    static final class World {
        double voltage = 10000.0;
        double impedance = 1.0;
        double margin = 0.3;
        List<Line> lines = new ArrayList<>();
        List<Event> events = new ArrayList<>();
        double cleared = 0.0;

        World copy() {
            World w = new World();
            w.voltage = voltage;
            w.impedance = impedance;
            w.margin = margin;
            for (Line line : lines) {
                w.lines.add(line.copy());
            }
            w.events.addAll(events);
            w.cleared = cleared;
            return w;
        }
    }

    /** What the random runs came upon, so that their test can ask whether they came far enough. */
    int sixtyEvents = 0;
    int manyRounds = 0;
    int equalTrips = 0;
    int pairsOpened = 0;
    int neverCleared = 0;

    World w = new World();
    final List<World> saved = new ArrayList<>();

    private void save() {
        saved.add(w.copy());
        if (saved.size() > 4) {
            saved.remove(0);
        }
    }

    private static void must(boolean fine) {
        if (!fine) {
            throw new IllegalArgumentException();
        }
    }

    private Line line(int number) {
        must(number >= 0 && number < w.lines.size());
        return w.lines.get(number);
    }

    private Line above(Line line) {
        return line.fromBus == 0 ? null : w.lines.get(line.fromBus - 1);
    }

    private List<Line> path(Line line) {
        List<Line> path = new ArrayList<>();
        for (Line at = line; at != null; at = above(at)) {
            path.add(0, at);
        }
        return path;
    }

    double setSource(double voltage, double impedance) {
        must(voltage >= 100.0 && voltage <= 1e6 && impedance >= 0.01 && impedance <= 1000.0);
        save();
        double old = w.impedance;
        w.voltage = voltage;
        w.impedance = impedance;
        return old;
    }

    int addLine(int fromBus, double impedance) {
        must(fromBus >= 0 && fromBus <= w.lines.size() && impedance >= 0.01 && impedance <= 1000.0);
        if (w.lines.size() == 12) {
            throw new IllegalStateException();
        }
        save();
        Line line = new Line();
        line.number = w.lines.size();
        line.fromBus = fromBus;
        line.impedance = impedance;
        w.lines.add(line);
        return line.number;
    }

    int setLoad(int bus, int amperes) {
        must(bus >= 1 && bus <= w.lines.size() && amperes >= 0 && amperes <= 5000);
        save();
        int old = w.lines.get(bus - 1).load;
        w.lines.get(bus - 1).load = amperes;
        return old;
    }

    int loadCurrent(int number) {
        Line top = line(number);
        int sum = 0;
        for (Line end : w.lines) {
            if (path(end).contains(top)) {
                sum += end.load;
            }
        }
        return sum;
    }

    double faultCurrent(int number, int percent) {
        Line last = line(number);
        must(percent >= 0 && percent <= 100);
        double ohms = w.impedance;
        for (Line line : path(last)) {
            ohms += line == last ? line.impedance * percent / 100.0 : line.impedance;
        }
        return w.voltage / ohms;
    }

    int setRelay(int relay, int pickup, int curve, int steps) {
        Line line = line(relay);
        must(pickup >= 1 && pickup <= 20000 && curve >= 0 && curve <= 3);
        must(steps >= 1 && steps <= 20);
        save();
        int old = line.pickup;
        line.pickup = pickup;
        line.curve = curve;
        line.steps = steps;
        return old;
    }

    int setInstantaneous(int relay, int amperes) {
        Line line = line(relay);
        must(amperes >= 0 && amperes <= 100000);
        save();
        int old = line.instantaneous;
        line.instantaneous = amperes;
        return old;
    }

    int setShots(int relay, int shots) {
        Line line = line(relay);
        must(shots >= 0 && shots <= 3);
        save();
        int old = line.shots;
        line.shots = shots;
        return old;
    }

    boolean setStuck(int relay, boolean stuck) {
        Line line = line(relay);
        save();
        boolean old = line.stuck;
        line.stuck = stuck;
        return old;
    }

    int pickup(int relay) {
        return line(relay).pickup;
    }

    int steps(int relay) {
        return line(relay).steps;
    }

    int upstream(int relay) {
        Line above = above(line(relay));
        return above == null ? -1 : above.number;
    }

    double operatingTime(int relay, double current) {
        Line line = line(relay);
        must(current >= 0.0 && current <= 1e9);
        return time(line, current);
    }

    private static double time(Line line, double current) {
        if (line.instantaneous > 0 && current >= line.instantaneous) {
            return 0.04;
        }
        double m = current / line.pickup;
        if (m <= 1.0) {
            return INFINITE;
        }
        double t = 0.05 * line.steps;
        return line.curve == 0 ? t
            : line.curve == 1 ? t * 13.5 / (m - 1.0)
            : line.curve == 2 ? t * 80.0 / (m * m - 1.0)
            : t * 120.0 / (m - 1.0);
    }

    double sensitivity(int relay) {
        return faultCurrent(relay, 100) * 0.866 / line(relay).pickup;
    }

    double setMargin(double seconds) {
        must(seconds >= 0.05 && seconds <= 5.0);
        save();
        double old = w.margin;
        w.margin = seconds;
        return old;
    }

    double margin(int relay, int percent) {
        Line line = line(relay);
        double current = faultCurrent(relay, percent);
        if (above(line) == null) {
            throw new IllegalStateException();
        }
        double up = time(above(line), current);
        double own = time(line, current);
        return up == INFINITE ? INFINITE : own == INFINITE ? -INFINITE : up - own;
    }

    private List<Integer> violations() {
        List<Integer> all = new ArrayList<>();
        for (Line line : w.lines) {
            int r = line.number;
            if (above(line) != null && (margin(r, 0) < w.margin || margin(r, 100) < w.margin)) {
                all.add(r);
            }
        }
        // The sort is stable: of equal ones the lower number stays in front.
        all.sort((a, b) -> {
            double worstA = Math.min(margin(a, 0), margin(a, 100));
            double worstB = Math.min(margin(b, 0), margin(b, 100));
            return worstA < worstB ? -1 : worstA > worstB ? 1 : 0;
        });
        return all;
    }

    int violationCount() {
        return violations().size();
    }

    int violation(int index) {
        List<Integer> all = violations();
        if (index < 0 || index >= all.size()) {
            throw new IndexOutOfBoundsException();
        }
        return all.get(index);
    }

    int autoPickup(int percent) {
        must(percent >= 100 && percent <= 300);
        save();
        int changed = 0;
        for (Line line : w.lines) {
            int old = line.pickup;
            int wanted = (loadCurrent(line.number) * percent + 99) / 100;
            line.pickup = wanted < 1 ? 1 : wanted > 20000 ? 20000 : wanted;
            changed += old == line.pickup ? 0 : 1;
        }
        return changed;
    }

    int autoGrade() {
        save();
        int failed = 0;
        for (int r = w.lines.size() - 1; r >= 0; r--) {
            int found = 0;
            for (int s = 20; s >= 1; s--) {
                w.lines.get(r).steps = s;
                boolean all = true;
                for (Line d : w.lines) {
                    if (above(d) == w.lines.get(r)) {
                        all &= margin(d.number, 0) >= w.margin && margin(d.number, 100) >= w.margin;
                    }
                }
                found = all ? s : found;
            }
            w.lines.get(r).steps = found == 0 ? 20 : found;
            failed += found == 0 ? 1 : 0;
        }
        return failed;
    }

    private void record(int kind, Line line, double time) {
        if (w.events.size() < 60) {
            w.events.add(new Event(100 * kind + line.number, time));
        } else {
            sixtyEvents++;
        }
    }

    int simulate(int number, int percent, double duration) {
        Line last = line(number);
        must(percent >= 0 && percent <= 100 && duration >= 0.001 && duration <= 1e6);
        save();
        w.events.clear();
        w.cleared = 0.0;
        double current = faultCurrent(number, percent);
        int[] opened = new int[12];
        double t = 0.0;
        while (true) {
            for (Line line : path(last)) {
                if (line.open) {
                    return w.events.size();
                }
            }
            if (t >= duration) {
                return w.events.size();
            }
            manyRounds += t > 1.5 ? 1 : 0;
            List<Trip> trips = trips(last, current, t);
            List<Trip> opening = opening(trips);
            if (opening.isEmpty()) {
                w.cleared = INFINITE;
                neverCleared += trips.isEmpty() ? 0 : 1;
                return w.events.size();
            }
            pairsOpened += opening.size() > 1 ? 1 : 0;
            w.cleared = opening.get(0).time + 0.06;
            Trip greatest = opening.get(0);
            for (Trip trip : opening) {
                record(2, trip.line, trip.time + 0.06);
                trip.line.open = true;
                opened[trip.line.number]++;
                greatest = trip.line.number > greatest.line.number ? trip : greatest;
            }
            if (opened[greatest.line.number] > greatest.line.shots) {
                return w.events.size();
            }
            t = greatest.time + 0.06 + 0.5;
            record(3, greatest.line, t);
            greatest.line.open = false;
        }
    }

    private List<Trip> trips(Line last, double current, double t) {
        List<Trip> trips = new ArrayList<>();
        for (Line line : path(last)) {
            double o = time(line, current);
            if (o != INFINITE) {
                trips.add(new Trip(line, t + o));
            }
        }
        trips.sort((a, b) -> {
            int byTime = Double.compare(a.time, b.time);
            return byTime != 0 ? byTime : Integer.compare(b.line.number, a.line.number);
        });
        for (int i = 1; i < trips.size(); i++) {
            equalTrips += trips.get(i).time == trips.get(i - 1).time ? 1 : 0;
        }
        return trips;
    }

    private List<Trip> opening(List<Trip> trips) {
        List<Trip> opening = new ArrayList<>();
        for (Trip trip : trips) {
            if (!opening.isEmpty() && !(trip.time < opening.get(0).time + 0.06)) {
                break;
            }
            record(0, trip.line, trip.time);
            if (trip.line.stuck) {
                record(1, trip.line, trip.time);
            } else {
                opening.add(trip);
            }
        }
        return opening;
    }

    int eventCount() {
        return w.events.size();
    }

    int event(int index) {
        return eventAt(index).code;
    }

    double eventTime(int index) {
        return eventAt(index).time;
    }

    private Event eventAt(int index) {
        if (index < 0 || index >= w.events.size()) {
            throw new IndexOutOfBoundsException();
        }
        return w.events.get(index);
    }

    double clearedTime() {
        return w.cleared;
    }

    int openBreakers() {
        int mask = 0;
        for (Line line : w.lines) {
            mask += line.open ? 1 << line.number : 0;
        }
        return mask;
    }

    int lostLoad() {
        int sum = 0;
        for (Line end : w.lines) {
            boolean dark = false;
            for (Line line : path(end)) {
                dark |= line.open;
            }
            sum += dark ? end.load : 0;
        }
        return sum;
    }

    int closeAll() {
        save();
        int closed = 0;
        for (Line line : w.lines) {
            closed += line.open ? 1 : 0;
            line.open = false;
        }
        return closed;
    }

    int undo() {
        if (saved.isEmpty()) {
            throw new IllegalStateException();
        }
        w = saved.remove(saved.size() - 1);
        return saved.size();
    }

    private long hash;

    private void mix(long value) {
        hash = 31 * hash + value;
    }

    private void mix(double value) {
        mix(Double.doubleToLongBits(value));
    }

    long digest() {
        hash = 11901;
        mix((long) saved.size());
        mix(w.voltage);
        mix(w.impedance);
        mix(w.margin);
        mix((long) w.lines.size());
        for (Line line : w.lines) {
            mix((long) line.fromBus);
            mix(line.impedance);
            mix((long) line.load);
            mix((long) line.pickup);
            mix((long) line.curve);
            mix((long) line.steps);
            mix((long) line.instantaneous);
            mix((long) line.shots);
            mix(line.stuck ? 1L : 0L);
            mix(faultCurrent(line.number, 100));
        }
        mix((long) openBreakers());
        mix((long) violationCount());
        mix((long) eventCount());
        for (Event event : w.events) {
            mix((long) event.code);
            mix(event.time);
        }
        mix(w.cleared);
        return hash;
    }
}
