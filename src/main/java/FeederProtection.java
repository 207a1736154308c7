import java.util.Arrays;

/**
 * A simulator and setting calculator for the overcurrent protection of a radial feeder.
 *
 * The public methods test their arguments, save the state where they are undoable, and leave the
 * work to the classes inside. All rows are made once, in the constructors, and no call makes
 * another one.
 */
public final class FeederProtection {
    public static final int DEFINITE = 0, VERY_INVERSE = 1, EXTREMELY_INVERSE = 2, LONG_INVERSE = 3;
    public static final int TRIP = 0, STUCK = 1, OPEN = 2, CLOSE = 3;
    public static final int NONE = -1;

    private static final int MAX_LINES = 12;
    private static final int MAX_LOAD = 5000;
    private static final int MAX_PICKUP = 20000;
    private static final int MAX_STEPS = 20;
    private static final int MAX_INSTANTANEOUS = 100000;
    private static final int MAX_SHOTS = 3;
    private static final int MAX_EVENTS = 60;
    private static final int MAX_SAVED = 4;
    // Every round but the last one uses up a shot of some relay.
    private static final int MAX_ROUNDS = MAX_LINES * MAX_SHOTS + 1;

    private final State state;
    private final UndoStack undoStack;
    private final Simulation simulation;

    public FeederProtection() {
        state = new State();
        undoStack = new UndoStack();
        simulation = new Simulation();
    }

    // ---- network

    public double setSource(double voltage, double impedance) throws IllegalArgumentException {
        if (!within(voltage, 100.0, 1000000.0)) {
            throw new IllegalArgumentException("the voltage is out of range");
        }
        requireImpedance(impedance);
        undoStack.push(state);
        double previous = state.network.sourceImpedance;
        state.network.voltage = voltage;
        state.network.sourceImpedance = impedance;
        return previous;
    }

    public int addLine(int fromBus, double impedance)
            throws IllegalArgumentException, IllegalStateException {
        if (!within(fromBus, 0, state.network.lineCount)) {
            throw new IllegalArgumentException("there is no such bus");
        }
        requireImpedance(impedance);
        if (state.network.lineCount >= MAX_LINES) {
            throw new IllegalStateException("there is no room for another line");
        }
        undoStack.push(state);
        return state.network.append(fromBus, impedance);
    }

    public int setLoad(int bus, int amperes) throws IllegalArgumentException {
        if (!within(bus, 1, state.network.lineCount)) {
            throw new IllegalArgumentException("there is no such bus with a load");
        }
        if (!within(amperes, 0, MAX_LOAD)) {
            throw new IllegalArgumentException("the load is out of range");
        }
        undoStack.push(state);
        int previous = state.network.load[bus - 1];
        state.network.load[bus - 1] = amperes;
        return previous;
    }

    public int loadCurrent(int line) throws IllegalArgumentException {
        requireLine(line);
        return state.network.loadOver(1 << line);
    }

    public double faultCurrent(int line, int percent) throws IllegalArgumentException {
        requireLine(line);
        requirePlace(percent);
        return state.network.currentAt(line, percent);
    }

    // ---- relays

    public int setRelay(int relay, int pickup, int curve, int steps)
            throws IllegalArgumentException {
        requireLine(relay);
        if (!within(pickup, 1, MAX_PICKUP)) {
            throw new IllegalArgumentException("the pickup current is out of range");
        }
        if (!within(curve, DEFINITE, LONG_INVERSE)) {
            throw new IllegalArgumentException("there is no such curve");
        }
        if (!within(steps, 1, MAX_STEPS)) {
            throw new IllegalArgumentException("the number of time steps is out of range");
        }
        undoStack.push(state);
        Relays relays = state.relays;
        int previous = relays.pickup[relay];
        relays.pickup[relay] = pickup;
        relays.curve[relay] = curve;
        relays.steps[relay] = steps;
        return previous;
    }

    public int setInstantaneous(int relay, int amperes) throws IllegalArgumentException {
        requireLine(relay);
        if (!within(amperes, 0, MAX_INSTANTANEOUS)) {
            throw new IllegalArgumentException("the instantaneous pickup is out of range");
        }
        undoStack.push(state);
        int previous = state.relays.instantaneous[relay];
        state.relays.instantaneous[relay] = amperes;
        return previous;
    }

    public int setShots(int relay, int shots) throws IllegalArgumentException {
        requireLine(relay);
        if (!within(shots, 0, MAX_SHOTS)) {
            throw new IllegalArgumentException("the number of shots is out of range");
        }
        undoStack.push(state);
        int previous = state.relays.shots[relay];
        state.relays.shots[relay] = shots;
        return previous;
    }

    public boolean setStuck(int relay, boolean stuck) throws IllegalArgumentException {
        requireLine(relay);
        undoStack.push(state);
        boolean previous = state.relays.isStuck(relay);
        state.relays.makeStuck(relay, stuck);
        return previous;
    }

    public int pickup(int relay) throws IllegalArgumentException {
        requireLine(relay);
        return state.relays.pickup[relay];
    }

    public int steps(int relay) throws IllegalArgumentException {
        requireLine(relay);
        return state.relays.steps[relay];
    }

    public int upstream(int relay) throws IllegalArgumentException {
        requireLine(relay);
        return state.network.lineBefore(relay);
    }

    public double operatingTime(int relay, double current) throws IllegalArgumentException {
        requireLine(relay);
        if (!within(current, 0.0, 1000000000.0)) {
            throw new IllegalArgumentException("the current is out of range");
        }
        return state.relays.timeFor(relay, current);
    }

    public double sensitivity(int relay) throws IllegalArgumentException {
        requireLine(relay);
        return state.network.currentAt(relay, 100) * 0.866 / state.relays.pickup[relay];
    }

    // ---- grading

    public double setMargin(double seconds) throws IllegalArgumentException {
        if (!within(seconds, 0.05, 5.0)) {
            throw new IllegalArgumentException("the required margin is out of range");
        }
        undoStack.push(state);
        double previous = state.requiredMargin;
        state.requiredMargin = seconds;
        return previous;
    }

    public double margin(int relay, int percent)
            throws IllegalArgumentException, IllegalStateException {
        requireLine(relay);
        requirePlace(percent);
        if (state.network.lineBefore(relay) == NONE) {
            throw new IllegalStateException("the relay has no upstream relay");
        }
        return state.marginAt(relay, percent);
    }

    public int violationCount() {
        return state.countViolations();
    }

    public int violation(int index) throws IndexOutOfBoundsException {
        int relay = index < 0 ? NONE : state.violationOfRank(index);
        if (relay == NONE) {
            throw new IndexOutOfBoundsException("there is no such violation");
        }
        return relay;
    }

    public int autoPickup(int percent) throws IllegalArgumentException {
        if (!within(percent, 100, 300)) {
            throw new IllegalArgumentException("the percentage is out of range");
        }
        undoStack.push(state);
        int changed = 0;
        for (int relay = 0; relay < state.network.lineCount; relay++) {
            int fitting = pickupForLoad(state.network.loadOver(1 << relay), percent);
            if (fitting != state.relays.pickup[relay]) {
                state.relays.pickup[relay] = fitting;
                changed++;
            }
        }
        return changed;
    }

    public int autoGrade() {
        undoStack.push(state);
        int failures = 0;
        // From the far end: the steps of a relay rest on those of the relays behind it.
        for (int relay = state.network.lineCount - 1; relay >= 0; relay--) {
            if (!state.gradeSteps(relay)) {
                failures++;
            }
        }
        return failures;
    }

    // ---- simulation

    public int simulate(int line, int percent, double duration) throws IllegalArgumentException {
        requireLine(line);
        requirePlace(percent);
        if (!within(duration, 0.001, 1000000.0)) {
            throw new IllegalArgumentException("the duration is out of range");
        }
        undoStack.push(state);
        simulation.run(state, line, percent, duration);
        return state.events.count;
    }

    public int eventCount() {
        return state.events.count;
    }

    public int event(int index) throws IndexOutOfBoundsException {
        requireEvent(index);
        return state.events.codes[index];
    }

    public double eventTime(int index) throws IndexOutOfBoundsException {
        requireEvent(index);
        return state.events.times[index];
    }

    public double clearedTime() {
        return state.events.cleared;
    }

    public int openBreakers() {
        return state.relays.openMask;
    }

    public int lostLoad() {
        return state.network.loadOver(state.relays.openMask);
    }

    public int closeAll() {
        undoStack.push(state);
        int wereOpen = Integer.bitCount(state.relays.openMask);
        state.relays.openMask = 0;
        return wereOpen;
    }

    // ---- undo and checksum

    public int undo() throws IllegalStateException {
        if (undoStack.count == 0) {
            throw new IllegalStateException("there is no saved state");
        }
        undoStack.popInto(state);
        return undoStack.count;
    }

    public long digest() {
        long hash = mixed(11901L, undoStack.count);
        hash = mixed(hash, bitsOf(state.network.voltage));
        hash = mixed(hash, bitsOf(state.network.sourceImpedance));
        hash = mixed(hash, bitsOf(state.requiredMargin));
        hash = mixed(hash, state.network.lineCount);
        for (int line = 0; line < state.network.lineCount; line++) {
            hash = mixedLine(hash, line);
        }
        hash = mixed(hash, state.relays.openMask);
        hash = mixed(hash, state.countViolations());
        return mixedEvents(hash);
    }

    private long mixedLine(long before, int line) {
        Network network = state.network;
        Relays relays = state.relays;
        long hash = mixed(before, network.fromBus[line]);
        hash = mixed(hash, bitsOf(network.impedance[line]));
        hash = mixed(hash, network.load[line]);
        hash = mixed(hash, relays.pickup[line]);
        hash = mixed(hash, relays.curve[line]);
        hash = mixed(hash, relays.steps[line]);
        hash = mixed(hash, relays.instantaneous[line]);
        hash = mixed(hash, relays.shots[line]);
        hash = mixed(hash, relays.isStuck(line) ? 1L : 0L);
        return mixed(hash, bitsOf(network.currentAt(line, 100)));
    }

    private long mixedEvents(long before) {
        EventLog events = state.events;
        long hash = mixed(before, events.count);
        for (int i = 0; i < events.count; i++) {
            hash = mixed(hash, events.codes[i]);
            hash = mixed(hash, bitsOf(events.times[i]));
        }
        return mixed(hash, bitsOf(events.cleared));
    }

    private static long mixed(long hash, long value) {
        return 31L * hash + value;
    }

    /**
     * The bits of a double as Double.doubleToLongBits tells them, got by arithmetic alone because
     * the program keeps to a small library. It serves zero, positive infinity and positive values
     * that are not subnormal; a state holds no others. Doubling and halving are exact there.
     */
    private static long bitsOf(double value) {
        if (!(value > 0.0)) {
            return 0L;
        }
        if (value >= infinity()) {
            return 0x7ff0000000000000L;
        }
        double significand = value;
        long exponent = 1075L;
        for (int i = 0; i < 1100 && significand < 4503599627370496.0; i++) {
            significand = significand * 2.0;
            exponent--;
        }
        for (int i = 0; i < 1100 && significand >= 9007199254740992.0; i++) {
            significand = significand / 2.0;
            exponent++;
        }
        return (exponent << 52) + ((long) significand - 4503599627370496L);
    }

    private static double infinity() {
        return 1.0e308 * 10.0;
    }

    private static int pickupForLoad(int load, int percent) {
        int wanted = (load * percent + 99) / 100;
        return Math.max(1, Math.min(MAX_PICKUP, wanted));
    }

    private static boolean within(int value, int low, int high) {
        return value >= low && value <= high;
    }

    /** A value that is not a number is within no range. */
    private static boolean within(double value, double low, double high) {
        return value >= low && value <= high;
    }

    private static void requireImpedance(double impedance) {
        if (!within(impedance, 0.01, 1000.0)) {
            throw new IllegalArgumentException("the impedance is out of range");
        }
    }

    private static void requirePlace(int percent) {
        if (!within(percent, 0, 100)) {
            throw new IllegalArgumentException("the percentage is out of range");
        }
    }

    private void requireLine(int line) {
        if (!within(line, 0, state.network.lineCount - 1)) {
            throw new IllegalArgumentException("there is no such line or relay");
        }
    }

    private void requireEvent(int index) {
        if (!within(index, 0, state.events.count - 1)) {
            throw new IndexOutOfBoundsException("there is no such event");
        }
    }

    /** The source, the lines and the loads. */
    private static final class Network {
        double voltage;
        double sourceImpedance;
        int lineCount;
        final int[] fromBus;
        /**
         * The lines of the path to each line, as bits. A line leads from a bus that was there
         * before it, so the rising order of the bits is the order of the path.
         */
        final int[] path;
        final double[] impedance;
        /** Row k is the load of bus k + 1, the end of line k. */
        final int[] load;

        Network() {
            voltage = 10000.0;
            sourceImpedance = 1.0;
            fromBus = new int[MAX_LINES];
            path = new int[MAX_LINES];
            impedance = new double[MAX_LINES];
            load = new int[MAX_LINES];
        }

        /** Rows of lines that are not there yet are copied too: they keep the first values. */
        void copyFrom(Network other) {
            voltage = other.voltage;
            sourceImpedance = other.sourceImpedance;
            lineCount = other.lineCount;
            System.arraycopy(other.fromBus, 0, fromBus, 0, MAX_LINES);
            System.arraycopy(other.path, 0, path, 0, MAX_LINES);
            System.arraycopy(other.impedance, 0, impedance, 0, MAX_LINES);
            System.arraycopy(other.load, 0, load, 0, MAX_LINES);
        }

        /** The caller has seen that there is such a bus, and room for the line. */
        int append(int bus, double ohms) {
            int line = lineCount;
            int pathToBus = bus == 0 ? 0 : path[bus - 1];
            fromBus[line] = bus;
            path[line] = pathToBus | 1 << line;
            impedance[line] = ohms;
            lineCount = line + 1;
            return line;
        }

        int lineBefore(int line) {
            return fromBus[line] == 0 ? NONE : fromBus[line] - 1;
        }

        /** The load of all buses whose path has at least one of these lines. */
        int loadOver(int lines) {
            int sum = 0;
            for (int end = 0; end < lineCount; end++) {
                if ((path[end] & lines) != 0) {
                    sum += load[end];
                }
            }
            return sum;
        }

        double currentAt(int line, int percent) {
            double sum = sourceImpedance;
            for (int before = 0; before < line; before++) {
                if ((path[line] >> before & 1) != 0) {
                    sum = sum + impedance[before];
                }
            }
            sum = sum + impedance[line] * percent / 100.0;
            return voltage / sum;
        }
    }

    /** The settings of the relays and the states of their breakers. */
    private static final class Relays {
        final int[] pickup;
        final int[] curve;
        final int[] steps;
        final int[] instantaneous;
        final int[] shots;
        int stuckMask;
        int openMask;

        Relays() {
            pickup = new int[MAX_LINES];
            curve = new int[MAX_LINES];
            steps = new int[MAX_LINES];
            instantaneous = new int[MAX_LINES];
            shots = new int[MAX_LINES];
            Arrays.fill(pickup, 100);
            Arrays.fill(steps, 1);
        }

        void copyFrom(Relays other) {
            System.arraycopy(other.pickup, 0, pickup, 0, MAX_LINES);
            System.arraycopy(other.curve, 0, curve, 0, MAX_LINES);
            System.arraycopy(other.steps, 0, steps, 0, MAX_LINES);
            System.arraycopy(other.instantaneous, 0, instantaneous, 0, MAX_LINES);
            System.arraycopy(other.shots, 0, shots, 0, MAX_LINES);
            stuckMask = other.stuckMask;
            openMask = other.openMask;
        }

        boolean isStuck(int relay) {
            return (stuckMask >> relay & 1) != 0;
        }

        void makeStuck(int relay, boolean stuck) {
            int bit = 1 << relay;
            stuckMask = stuck ? stuckMask | bit : stuckMask & ~bit;
        }

        double timeFor(int relay, double current) {
            if (instantaneous[relay] != 0 && current >= instantaneous[relay]) {
                return 0.04;
            }
            double multiple = current / pickup[relay];
            if (!(multiple > 1.0)) {
                return infinity();
            }
            return delayedTime(curve[relay], 0.05 * steps[relay], multiple);
        }

        /** The multiple is greater than 1.0, so that no divisor is 0.0. */
        private static double delayedTime(int curve, double base, double multiple) {
            switch (curve) {
                case VERY_INVERSE:
                    return base * 13.5 / (multiple - 1.0);
                case EXTREMELY_INVERSE:
                    return base * 80.0 / (multiple * multiple - 1.0);
                case LONG_INVERSE:
                    return base * 120.0 / (multiple - 1.0);
                default:
                    return base;
            }
        }
    }

    /** The events of the latest simulation and its clearing time. */
    private static final class EventLog {
        int count;
        final int[] codes;
        final double[] times;
        double cleared;

        EventLog() {
            codes = new int[MAX_EVENTS];
            times = new double[MAX_EVENTS];
        }

        void copyFrom(EventLog other) {
            count = other.count;
            System.arraycopy(other.codes, 0, codes, 0, MAX_EVENTS);
            System.arraycopy(other.times, 0, times, 0, MAX_EVENTS);
            cleared = other.cleared;
        }

        void reset() {
            count = 0;
            cleared = 0.0;
        }

        void put(int kind, int relay, double time) {
            if (count < MAX_EVENTS) {
                codes[count] = 100 * kind + relay;
                times[count] = time;
                count++;
            }
        }
    }

    /** All that undo brings back, and the grading, which needs the network and the relays. */
    private static final class State {
        final Network network;
        final Relays relays;
        final EventLog events;
        double requiredMargin;

        State() {
            network = new Network();
            relays = new Relays();
            events = new EventLog();
            requiredMargin = 0.3;
        }

        void copyFrom(State other) {
            network.copyFrom(other.network);
            relays.copyFrom(other.relays);
            events.copyFrom(other.events);
            requiredMargin = other.requiredMargin;
        }

        /** The relay has an upstream relay. */
        double marginAt(int relay, int percent) {
            double current = network.currentAt(relay, percent);
            double upstreamTime = relays.timeFor(network.lineBefore(relay), current);
            // Infinity minus infinity is no number; the document says what it counts as.
            if (upstreamTime >= infinity()) {
                return infinity();
            }
            return upstreamTime - relays.timeFor(relay, current);
        }

        /**
         * The smaller one of the two margins that count for violations. Without an upstream relay
         * it is infinite, so that the relay is no violation.
         */
        double worstMargin(int relay) {
            if (network.lineBefore(relay) == NONE) {
                return infinity();
            }
            double near = marginAt(relay, 0);
            double far = marginAt(relay, 100);
            return far < near ? far : near;
        }

        int countViolations() {
            int count = 0;
            for (int relay = 0; relay < network.lineCount; relay++) {
                if (worstMargin(relay) < requiredMargin) {
                    count++;
                }
            }
            return count;
        }

        /** NONE if there are not so many violations. */
        int violationOfRank(int rank) {
            for (int relay = 0; relay < network.lineCount; relay++) {
                if (worstMargin(relay) < requiredMargin && relaysWorseThan(relay) == rank) {
                    return relay;
                }
            }
            return NONE;
        }

        /** Of a violation: all relays with a worse margin are violations too. */
        private int relaysWorseThan(int relay) {
            double worst = worstMargin(relay);
            int count = 0;
            for (int other = 0; other < network.lineCount; other++) {
                double otherWorst = worstMargin(other);
                if (otherWorst < worst || otherWorst == worst && other < relay) {
                    count++;
                }
            }
            return count;
        }

        /** Tells if there are steps that keep the margins; otherwise the most steps stay set. */
        boolean gradeSteps(int relay) {
            for (int steps = 1; steps <= MAX_STEPS; steps++) {
                relays.steps[relay] = steps;
                if (keepsMargins(relay)) {
                    return true;
                }
            }
            return false;
        }

        private boolean keepsMargins(int relay) {
            for (int behind = relay + 1; behind < network.lineCount; behind++) {
                if (network.lineBefore(behind) == relay && worstMargin(behind) < requiredMargin) {
                    return false;
                }
            }
            return true;
        }
    }

    /** The latest saved states; an older one gives its place to a new one. */
    private static final class UndoStack {
        int count;
        private int next;
        private final State[] saved;

        UndoStack() {
            saved = new State[MAX_SAVED];
            for (int i = 0; i < MAX_SAVED; i++) {
                saved[i] = new State();
            }
        }

        void push(State state) {
            saved[next].copyFrom(state);
            next = (next + 1) % MAX_SAVED;
            count = Math.min(count + 1, MAX_SAVED);
        }

        /** The caller has seen that the stack is not empty. */
        void popInto(State state) {
            next = (next + MAX_SAVED - 1) % MAX_SAVED;
            state.copyFrom(saved[next]);
            count--;
        }
    }

    /** Plays faults. Its rows serve one simulation after the other. */
    private static final class Simulation {
        /** The relays that would trip in this round, in the order in which they are taken. */
        private final int[] tripping;
        private int trippingCount;
        /** By relay, for those in the row of the tripping ones. */
        private final double[] tripTime;
        /** The relays whose breakers open in this round, in the order in which they were taken. */
        private final int[] opening;
        private int openingCount;
        /** By relay, how often its breaker has opened in this simulation. */
        private final int[] timesOpened;

        Simulation() {
            tripping = new int[MAX_LINES];
            tripTime = new double[MAX_LINES];
            opening = new int[MAX_LINES];
            timesOpened = new int[MAX_LINES];
        }

        void run(State state, int line, int percent, double duration) {
            Arrays.fill(timesOpened, 0);
            state.events.reset();
            int path = state.network.path[line];
            double current = state.network.currentAt(line, percent);
            double time = 0.0;
            for (int round = 0; round < MAX_ROUNDS; round++) {
                if ((path & state.relays.openMask) != 0 || time >= duration) {
                    return;
                }
                time = playRound(state, path, current, time);
            }
        }

        /** The time of the next round, infinity if there is none. */
        private double playRound(State state, int path, double current, double time) {
            lineUpTrips(state.relays, path, current, time);
            takeTrips(state.relays, state.events);
            if (openingCount == 0) {
                state.events.cleared = infinity();
                return infinity();
            }
            state.events.cleared = openingTime(opening[0]);
            openThem(state.relays, state.events);
            return reclose(state.relays, state.events);
        }

        private void lineUpTrips(Relays relays, int path, double current, double time) {
            trippingCount = 0;
            // From the greatest number down: of equal times it stays in front.
            for (int relay = MAX_LINES - 1; relay >= 0; relay--) {
                if ((path >> relay & 1) != 0) {
                    double delay = relays.timeFor(relay, current);
                    if (delay < infinity()) {
                        tripTime[relay] = time + delay;
                        lineUp(relay);
                    }
                }
            }
        }

        private void lineUp(int relay) {
            int place = trippingCount;
            while (place > 0 && tripTime[tripping[place - 1]] > tripTime[relay]) {
                tripping[place] = tripping[place - 1];
                place--;
            }
            tripping[place] = relay;
            trippingCount++;
        }

        private void takeTrips(Relays relays, EventLog events) {
            openingCount = 0;
            double clearing = infinity();
            for (int i = 0; i < trippingCount && tripTime[tripping[i]] < clearing; i++) {
                int relay = tripping[i];
                events.put(TRIP, relay, tripTime[relay]);
                if (relays.isStuck(relay)) {
                    events.put(STUCK, relay, tripTime[relay]);
                } else {
                    opening[openingCount] = relay;
                    openingCount++;
                    clearing = openingTime(opening[0]);
                }
            }
        }

        private double openingTime(int relay) {
            return tripTime[relay] + 0.06;
        }

        private void openThem(Relays relays, EventLog events) {
            for (int i = 0; i < openingCount; i++) {
                int relay = opening[i];
                events.put(OPEN, relay, openingTime(relay));
                relays.openMask |= 1 << relay;
                timesOpened[relay]++;
            }
        }

        /** The time of the closing, infinity if no shot is left. */
        private double reclose(Relays relays, EventLog events) {
            int last = opening[0];
            for (int i = 1; i < openingCount; i++) {
                last = Math.max(last, opening[i]);
            }
            if (timesOpened[last] > relays.shots[last]) {
                return infinity();
            }
            double closing = openingTime(last) + 0.5;
            events.put(CLOSE, last, closing);
            relays.openMask &= ~(1 << last);
            return closing;
        }
    }
}
