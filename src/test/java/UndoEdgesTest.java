import java.math.BigInteger;

/** The sentences of promises 30 and 31 that name an edge, and those of all calls together. */
public final class UndoEdgesTest {
    private static final BigInteger WRAP = BigInteger.ONE.shiftLeft(64);
    /** The promises whose methods are marked "undoable". */
    private static final int[] UNDOABLE = {2, 3, 4, 7, 8, 9, 10, 16, 20, 21, 22, 29};

    public static void main(String[] args) {
        everyUndoableMethodSaves();
        alsoIfItChangesNothing();
        onlyIfItEndsNormally();
        savedStateIsFromBefore();
        readersSaveNothing();
        noneIsSaved();
        oneIsSaved();
        fourAreSaved();
        fiveAreSaved();
        manyAreSaved();
        savedAndTakenBackByTurns();
        undoSavesNothing();
        undoOfBreakersAndEvents();
        refusedCallsChangeNothing();
        notANumber();
        digestOfNothing();
        digestOfTheStack();
        digestOfNoneAndAll();
        digestWraps();
        digestOfEvents();
        digestOfDoubles();
        digestOfVeryLateTimes();
        digestOfVeryEarlyTimes();
        digestChangesNothing();
        lastPromisedCall();
        Check.finish("UndoEdgesTest");
    }

    /** For each of these promises a call that changes four(0). */
    private static Edges.Call[] changes() {
        return new Edges.Call[] {
            x -> x.setSource(20000.0, 3.0),
            x -> x.addLine(4, 7.0),
            x -> x.setLoad(4, 77),
            x -> x.setRelay(3, 300, 2, 5),
            x -> x.setInstantaneous(0, 900),
            x -> x.setShots(2, 3),
            x -> x.setStuck(1, true),
            x -> x.setMargin(0.7),
            x -> x.autoPickup(150),
            x -> x.autoGrade(),
            x -> x.simulate(3, 50, 3.0),
            x -> x.closeAll(),
        };
    }

    /** Undoable calls, each of which leaves a chain of four lines as it is. */
    private static Edges.Call[] idleCalls() {
        return new Edges.Call[] {
            x -> x.setSource(10000.0, 1.0),
            x -> x.setLoad(4, 0),
            x -> x.setRelay(3, 100, 0, 1),
            x -> x.setInstantaneous(0, 0),
            x -> x.setShots(2, 0),
            x -> x.setStuck(1, false),
            x -> x.setMargin(0.3),
            x -> x.closeAll(),
        };
    }

    /** Four lines, the last one beside the others and open, and this number of saved states. */
    private static FeederProtection four(int saved) {
        FeederProtection x = Edges.chain(3);
        x.addLine(0, 1.0);
        x.simulate(3, 0, 1.0);
        for (int i = 0; i < 4; i++) {
            x.setMargin(0.3);
        }
        for (int i = 4; i > saved; i--) {
            x.undo();
        }
        return x;
    }

    private static String thrownByUndo(FeederProtection x) {
        return Check.thrownBy(() -> x.undo());
    }

    private static void everyUndoableMethodSaves() {
        Edges.Call[] changes = changes();
        for (int i = 0; i < changes.length; i++) {
            Check.sentence(UNDOABLE[i], "Undoable.");
            FeederProtection x = four(0);
            String before = Edges.everyAnswer(x);
            changes[i].on(x);
            Check.same("it changes something", before.equals(Edges.everyAnswer(x)), false);
            Check.same("undo()", x.undo(), 0);
            Check.same("the answers then", Edges.everyAnswer(x), before);
            Check.same("nothing more is saved", thrownByUndo(x), Edges.STATE.getName());
        }
    }

    private static void alsoIfItChangesNothing() {
        Check.sentence(30, "when it ends normally, also if it changes nothing.");
        for (Edges.Call call : idleCalls()) {
            FeederProtection x = Edges.chain(4);
            call.on(x);
            call.on(x);
            Check.same("two calls", x.undo(), 3);
            Check.same("the second state", x.undo(), 2);
            Check.same("the line is there", x.pickup(3), 100);
            Check.same("the third state", x.undo(), 1);
            Check.same("the line is not there", Check.thrownBy(() -> x.pickup(3)),
                Edges.ILLEGAL.getName());
        }
        FeederProtection x = new FeederProtection();
        x.autoPickup(100);
        x.autoGrade();
        x.closeAll();
        Check.same("without lines", x.undo(), 2);
        FeederProtection y = four(0);
        y.simulate(3, 0, 1.0);
        y.simulate(3, 0, 1.0);
        Check.same("a simulation without events", y.undo(), 1);
    }

    private static void onlyIfItEndsNormally() {
        Check.sentence(30, "when it ends normally");
        for (Edges.Call call : refusedCalls()) {
            FeederProtection x = four(0);
            Check.same("a call is refused", Check.thrownBy(() -> call.on(x)).equals("nothing"),
                false);
            Check.same("it saves nothing", thrownByUndo(x), Edges.STATE.getName());
        }
        FeederProtection x = Edges.chain(12);
        for (int i = 0; i < 9; i++) {
            Check.same("no room", Check.thrownBy(() -> x.addLine(0, 1.0)), Edges.STATE.getName());
        }
        Check.same("still the states of before", x.undo(), 3);
        Check.same("the last line is gone", x.addLine(0, 1.0), 11);
    }

    /** For an object with four lines, of which the first begins at bus 0. */
    private static Edges.Call[] refusedCalls() {
        return new Edges.Call[] {
            x -> x.setSource(99.9, 1.0),
            x -> x.setSource(100.0, 0.0),
            x -> x.addLine(5, 1.0),
            x -> x.addLine(4, 1000.1),
            x -> x.setLoad(0, 1),
            x -> x.setLoad(1, 5001),
            x -> x.loadCurrent(4),
            x -> x.faultCurrent(4, 0),
            x -> x.faultCurrent(0, 101),
            x -> x.setRelay(4, 100, 0, 1),
            x -> x.setRelay(0, 0, 0, 1),
            x -> x.setRelay(0, 100, 4, 1),
            x -> x.setRelay(0, 100, 0, 21),
            x -> x.setInstantaneous(4, 1),
            x -> x.setInstantaneous(0, -1),
            x -> x.setShots(4, 1),
            x -> x.setShots(0, 4),
            x -> x.setStuck(4, true),
            x -> x.pickup(4),
            x -> x.steps(4),
            x -> x.upstream(4),
            x -> x.operatingTime(4, 1.0),
            x -> x.operatingTime(0, -1.0),
            x -> x.sensitivity(4),
            x -> x.setMargin(0.0),
            x -> x.margin(4, 0),
            x -> x.margin(0, 101),
            x -> x.margin(0, 0),
            x -> x.violation(4),
            x -> x.violation(-1),
            x -> x.autoPickup(99),
            x -> x.simulate(4, 0, 1.0),
            x -> x.simulate(0, 101, 1.0),
            x -> x.simulate(0, 0, 0.0),
            x -> x.event(60),
            x -> x.event(-1),
            x -> x.eventTime(60),
            x -> x.eventTime(-1),
        };
    }

    private static void savedStateIsFromBefore() {
        Check.sentence(30, "The saved state is the one from before the call.");
        FeederProtection x = Edges.chain(2);
        x.setLoad(1, 1);
        x.setLoad(1, 2);
        x.setLoad(1, 3);
        x.undo();
        Check.same("before the third", x.loadCurrent(0), 2);
        x.undo();
        Check.same("before the second", x.loadCurrent(0), 1);
        x.undo();
        Check.same("before the first", x.loadCurrent(0), 0);
        x.undo();
        Check.same("before the line", Check.thrownBy(() -> x.loadCurrent(1)),
            Edges.ILLEGAL.getName());
    }

    private static void readersSaveNothing() {
        Check.sentence(30, "Every method that is marked \"undoable\" saves the whole state");
        FeederProtection x = four(0);
        x.loadCurrent(0);
        x.faultCurrent(0, 0);
        x.pickup(0);
        x.steps(0);
        x.upstream(0);
        x.operatingTime(0, 0.0);
        x.sensitivity(0);
        x.margin(1, 0);
        x.violationCount();
        x.violation(0);
        x.eventCount();
        x.event(0);
        x.eventTime(0);
        x.clearedTime();
        x.openBreakers();
        x.lostLoad();
        x.digest();
        Check.same("no other method does", thrownByUndo(x), Edges.STATE.getName());
    }

    private static void noneIsSaved() {
        Check.sentence(30, "Throws `IllegalStateException` if the stack is empty");
        Edges.refused(Edges.STATE, "a new object", FeederProtection::new, x -> x.undo());
        Edges.refused(Edges.STATE, "all taken back", () -> four(0), x -> x.undo());
        FeederProtection x = Edges.chain(1);
        x.undo();
        for (int i = 0; i < 5; i++) {
            Check.same("again and again", thrownByUndo(x), Edges.STATE.getName());
        }
        x.addLine(0, 1.0);
        Check.same("and one more", x.undo(), 0);
    }

    private static void oneIsSaved() {
        Check.sentence(30, "Returns the number of states that are left on the stack.");
        for (int saved = 1; saved <= 4; saved++) {
            Check.same("of " + saved, four(saved).undo(), saved - 1);
        }
    }

    private static void fourAreSaved() {
        Check.sentence(30, "The stack keeps the latest 4 saved states and drops older ones.");
        FeederProtection x = Edges.chain(4);
        for (int left = 3; left >= 0; left--) {
            Check.same("undo()", x.undo(), left);
            Check.same("a line less", x.addLine(0, 1.0), left);
            x.undo();
        }
        Check.same("then it is empty", thrownByUndo(x), Edges.STATE.getName());
        Check.same("and there is no line", x.addLine(0, 1.0), 0);
    }

    private static void fiveAreSaved() {
        Check.sentence(30, "The stack keeps the latest 4 saved states and drops older ones.");
        FeederProtection x = new FeederProtection();
        for (int change = 1; change <= 5; change++) {
            x.setSource(1000.0, change * 10.0);
        }
        for (int left = 3; left >= 0; left--) {
            Check.same("undo()", x.undo(), left);
        }
        Check.same("the first one was dropped", thrownByUndo(x), Edges.STATE.getName());
        Check.same("what the first call did stays", x.setSource(1000.0, 1.0), 10.0);
    }

    private static void manyAreSaved() {
        Check.sentence(30, "The stack keeps the latest 4 saved states and drops older ones.");
        for (int calls = 6; calls <= 13; calls++) {
            FeederProtection x = Edges.chain(1);
            for (int load = 1; load <= calls; load++) {
                x.setLoad(1, load);
            }
            for (int left = 3; left >= 0; left--) {
                Check.same("undo()", x.undo(), left);
                Check.same("the load of then", x.loadCurrent(0), calls - 4 + left);
            }
            Check.same("the older ones were dropped", thrownByUndo(x), Edges.STATE.getName());
        }
    }

    /** However many were saved and taken back before, the latest four are the latest four. */
    private static void savedAndTakenBackByTurns() {
        Check.sentence(30, "Restores the latest saved state and removes it from the undo stack.");
        FeederProtection x = Edges.chain(1);
        int load = 0;
        for (int turn = 0; turn < 7; turn++) {
            for (int i = 0; i < 5; i++) {
                load++;
                x.setLoad(1, load);
            }
            for (int left = 3; left >= turn % 4; left--) {
                Check.same("undo()", x.undo(), left);
                load--;
                Check.same("the load of then", x.loadCurrent(0), load);
            }
        }
    }

    private static void undoSavesNothing() {
        Check.sentence(30, "Restores the latest saved state and removes it from the undo stack.");
        FeederProtection x = Edges.chain(2);
        Check.same("the first undo", x.undo(), 1);
        Check.same("the second undo takes back another call", x.undo(), 0);
        Check.same("nothing is left", thrownByUndo(x), Edges.STATE.getName());
        x.addLine(0, 2.0);
        Check.same("what was taken back is gone", x.undo(), 0);
    }

    private static void undoOfBreakersAndEvents() {
        Check.sentence(30, "the whole state (network, relays, breakers, margin, events)");
        FeederProtection x = Edges.busy();
        x.closeAll();
        x.simulate(3, 50, 1.0);
        String before = Edges.everyAnswer(x);
        x.setStuck(0, false);
        x.closeAll();
        x.simulate(0, 0, 1.0);
        x.setMargin(5.0);
        Check.same("four changes", before.equals(Edges.everyAnswer(x)), false);
        for (int i = 0; i < 4; i++) {
            x.undo();
        }
        FeederProtection y = Edges.busy();
        y.closeAll();
        y.simulate(3, 50, 1.0);
        Check.same("openBreakers()", x.openBreakers(), y.openBreakers());
        Check.same("clearedTime()", x.clearedTime(), y.clearedTime());
        Check.same("eventCount()", x.eventCount(), y.eventCount());
        for (int index = 0; index < y.eventCount(); index++) {
            Check.same("event(" + index + ")", x.event(index), y.event(index));
            Check.same("eventTime(" + index + ")", x.eventTime(index), y.eventTime(index));
        }
        Check.same("setMargin", x.setMargin(0.2), 0.2);
        Check.same("setStuck", x.setStuck(0, true), true);
    }

    private static void refusedCallsChangeNothing() {
        Check.sentence(30, "A call that throws an exception changes nothing.");
        Edges.Call[] calls = refusedCalls();
        for (int i = 0; i < calls.length; i++) {
            Edges.Call call = calls[i];
            String thrown = Check.thrownBy(() -> call.on(Edges.busy()));
            Class<?> kind = thrown.equals(Edges.STATE.getName()) ? Edges.STATE
                : thrown.equals(Edges.INDEX.getName()) ? Edges.INDEX : Edges.ILLEGAL;
            Edges.refused(kind, "refused call " + i, Edges::busy, call);
        }
    }

    private static void notANumber() {
        Check.sentence(30, "A double argument that is not a number is out of range.");
        double nan = 0.0 / 0.0;
        Edges.Call[] calls = {x -> x.setSource(nan, 1.0), x -> x.setSource(100.0, nan),
            x -> x.addLine(0, nan), x -> x.operatingTime(0, nan), x -> x.setMargin(nan),
            x -> x.simulate(0, 0, nan)};
        for (int i = 0; i < calls.length; i++) {
            Edges.refused(Edges.ILLEGAL, "call " + i, Edges::busy, calls[i]);
        }
    }

    /** h becomes 31 * h + v, without a bound, and what is left of it when 64 bits have wrapped. */
    private static long hash(long... values) {
        BigInteger h = BigInteger.valueOf(11901);
        for (long v : values) {
            h = h.multiply(BigInteger.valueOf(31)).add(BigInteger.valueOf(v));
        }
        return h.mod(WRAP).longValue();
    }

    private static long bits(double value) {
        return Double.doubleToLongBits(value);
    }

    private static void digestOfNothing() {
        Check.sentence(31, "It starts with h = 11901.");
        Check.same("a new object", new FeederProtection().digest(),
            hash(0, bits(10000.0), bits(1.0), bits(0.3), 0, 0, 0, 0, 0));
    }

    private static void digestOfTheStack() {
        Check.sentence(31, "the number of states on the undo stack, the voltage, the impedance of "
            + "the source, the required margin, the number of lines;");
        FeederProtection x = new FeederProtection();
        for (int calls = 0; calls <= 6; calls++) {
            Check.same("calls " + calls, x.digest(), hash(Math.min(calls, 4), bits(10000.0),
                bits(1.0), bits(0.3), 0, 0, 0, 0, bits(0.0)));
            x.closeAll();
        }
        for (int left = 3; left >= 0; left--) {
            x.undo();
            Check.same("left " + left, x.digest(), hash(left, bits(10000.0), bits(1.0),
                bits(0.3), 0, 0, 0, 0, bits(0.0)));
        }
    }

    private static void digestOfNoneAndAll() {
        Check.sentence(31, "for each line its first bus, its impedance, the load of its last bus, "
            + "the pickup current, the curve, the time steps, the instantaneous pickup and the "
            + "shots of its relay, 1 if its breaker is stuck or 0 if not, and "
            + "faultCurrent(line, 100);");
        for (int lines = 0; lines <= 12; lines++) {
            FeederProtection x = Edges.chain(lines);
            long[] values = new long[9 + 10 * lines];
            values[0] = Math.min(lines, 4);
            values[1] = bits(10000.0);
            values[2] = bits(1.0);
            values[3] = bits(0.3);
            values[4] = lines;
            for (int line = 0; line < lines; line++) {
                int at = 5 + 10 * line;
                values[at] = line;
                values[at + 1] = bits(1.0);
                values[at + 3] = 100;
                values[at + 5] = 1;
                values[at + 9] = bits(10000.0 / (2.0 + line));
            }
            values[values.length - 3] = Math.max(0, lines - 1);
            Check.same("lines " + lines, x.digest(), hash(values));
        }
    }

    private static void digestWraps() {
        Check.sentence(31, "h becomes 31 * h + v (long arithmetic, overflow wraps)");
        FeederProtection x = new FeederProtection();
        boolean below = false;
        boolean above = false;
        for (int i = 1; i <= 40; i++) {
            double voltage = 100.0 + 7919.0 * i;
            x.setSource(voltage, 0.01);
            long due = hash(Math.min(i, 4), bits(voltage), bits(0.01), bits(0.3), 0, 0, 0, 0,
                bits(0.0));
            Check.same("voltage " + voltage, x.digest(), due);
            below |= due < 0;
            above |= due > 0;
        }
        Check.same("it wraps to either sign", below && above, true);
    }

    private static void digestOfEvents() {
        Check.sentence(31, "openBreakers(), violationCount(), eventCount(); for each event "
            + "event() and eventTime(); clearedTime().");
        FeederProtection x = Edges.star(1);
        for (int relay = 1; relay < 12; relay++) {
            x.addLine(relay, 1.0);
        }
        for (int relay = 0; relay < 11; relay++) {
            x.setStuck(relay, true);
        }
        x.setShots(11, 2);
        x.simulate(11, 0, 1000.0);
        Check.same("eventCount()", x.eventCount(), 60);
        long[] values = new long[9 + 120 + 120];
        values[0] = 4;
        values[1] = bits(10000.0);
        values[2] = bits(1.0);
        values[3] = bits(0.3);
        values[4] = 12;
        for (int line = 0; line < 12; line++) {
            int at = 5 + 10 * line;
            values[at] = line;
            values[at + 1] = bits(1.0);
            values[at + 3] = 100;
            values[at + 5] = 1;
            values[at + 7] = line == 11 ? 2 : 0;
            values[at + 8] = line == 11 ? 0 : 1;
            values[at + 9] = bits(10000.0 / (2.0 + line));
        }
        values[125] = 2048;
        values[126] = 11;
        values[127] = 60;
        for (int index = 0; index < 60; index++) {
            values[128 + 2 * index] = x.event(index);
            values[129 + 2 * index] = bits(x.eventTime(index));
        }
        values[248] = bits(x.clearedTime());
        Check.same("sixty events", x.digest(), hash(values));
    }

    private static void digestOfDoubles() {
        Check.sentence(31, "of a double, v is Double.doubleToLongBits of it.");
        double[] impedances = {0.01, Math.nextUp(0.01), 0.1, 0.5, 1.0 - 2e-10, 1.0 - 0x1p-52,
            Math.nextDown(1.0), 1.0, Math.nextUp(1.0), 2.0, 3.3, 999.9999999999999, 1000.0};
        double[] voltages = {100.0, 127.99999999999999, 128.0, 54321.123456789, 1000000.0};
        for (double ohms : impedances) {
            for (double volts : voltages) {
                FeederProtection x = new FeederProtection();
                x.setSource(volts, ohms);
                x.setMargin(0.05);
                Check.same(volts + " volts, " + ohms + " ohms", x.digest(), hash(2, bits(volts),
                    bits(ohms), bits(0.05), 0, 0, 0, 0, bits(0.0)));
            }
        }
        FeederProtection x = Edges.chain(1);
        x.setRelay(0, 20000, 0, 1);
        x.simulate(0, 0, 1.0);
        Check.same("positive infinity", x.digest(), hash(3, bits(10000.0), bits(1.0), bits(0.3),
            1, 0, bits(1.0), 0, 20000, 0, 1, 0, 0, 0, bits(5000.0), 0, 0, 0,
            bits(Double.POSITIVE_INFINITY)));
    }

    /** With M = 1.0 + k / 2^52 the trip time is 120 * 2^52 / k: around 2^52, 2^53 and beyond. */
    private static void digestOfVeryLateTimes() {
        Check.sentence(31, "of a double, v is Double.doubleToLongBits of it.");
        for (int k : new int[] {1, 2, 15, 29, 30, 31, 59, 60, 61, 119, 120, 121, 240, 9999}) {
            double voltage = 128.0 + k * Math.ulp(128.0);
            double trip = 120.0 / (k * Math.ulp(1.0));
            FeederProtection x = new FeederProtection();
            x.setSource(voltage, 1.0);
            x.addLine(0, 1.0);
            x.setRelay(0, 128, FeederProtection.LONG_INVERSE, 20);
            x.simulate(0, 0, 1.0);
            Check.same("k " + k + ": eventTime(0)", x.eventTime(0), trip);
            Check.same("k " + k, x.digest(), hash(4, bits(voltage), bits(1.0), bits(0.3), 1,
                0, bits(1.0), 0, 128, 3, 20, 0, 0, 0, bits(voltage / 2.0), 1, 0, 2,
                0, bits(trip), 200, bits(trip + 0.06), bits(trip + 0.06)));
        }
    }

    /** The greatest fault current there is, one ampere of pickup, and the fastest curves. */
    private static void digestOfVeryEarlyTimes() {
        Check.sentence(31, "of a double, v is Double.doubleToLongBits of it.");
        double m = 1000000.0 / 0.01;
        double[] trips = {0.05, 0.05 * 13.5 / (m - 1.0), 0.05 * 80.0 / (m * m - 1.0),
            0.05 * 120.0 / (m - 1.0)};
        for (int curve = 0; curve < 4; curve++) {
            double trip = trips[curve];
            FeederProtection x = new FeederProtection();
            x.setSource(1000000.0, 0.01);
            x.addLine(0, 1.0);
            x.setRelay(0, 1, curve, 1);
            x.simulate(0, 0, 1.0);
            Check.same("curve " + curve + ": eventTime(0)", x.eventTime(0), trip);
            Check.same("curve " + curve, x.digest(), hash(4, bits(1000000.0), bits(0.01),
                bits(0.3), 1, 0, bits(1.0), 0, 1, curve, 1, 0, 0, 0, bits(1000000.0 / 1.01),
                1, 0, 2, 0, bits(trip), 200, bits(trip + 0.06), bits(trip + 0.06)));
        }
    }

    private static void digestChangesNothing() {
        Check.sentence(31, "Returns a hash of the state.");
        FeederProtection x = Edges.busy();
        FeederProtection twin = Edges.busy();
        long first = x.digest();
        Check.same("asked again", x.digest(), first);
        Check.same("asked of the twin", twin.digest(), first);
        Check.same("the answers", Edges.everyAnswer(x), Edges.everyAnswer(twin));
        Check.same("the saved states", x.undo(), twin.undo());
    }

    private static void lastPromisedCall() {
        Check.sentence(31, "An object is used for at most 512 calls after it has been made");
        FeederProtection x = Edges.chain(12);
        for (int call = 13; call <= 508; call++) {
            if (call % 2 == 0) {
                x.simulate(11, 0, 1.0);
            } else {
                x.closeAll();
            }
        }
        Check.same("call 509", x.openBreakers(), 4095);
        Check.same("call 510", x.closeAll(), 12);
        Check.same("call 511", x.simulate(11, 0, 1.0), 24);
        Check.same("call 512", x.undo(), 3);
    }
}
