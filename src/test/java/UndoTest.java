/** Promises 30 and 31: undo of every undoable method, its depth, and the digest. */
public final class UndoTest {
    /** A change of an object by one undoable call. */
    interface Change {
        void apply(FeederProtection x);
    }

    public static void main(String[] args) {
        promise30EveryUndoableMethod();
        promise30FourStates();
        promise30NothingElseSaves();
        promise30BringsBackEvents();
        promise31NewObject();
        promise31EveryValue();
        promise31Coverage();
        Check.finish("UndoTest");
    }

    private static FeederProtection busyWithoutSavedStates() {
        FeederProtection x = new FeederProtection();
        x.addLine(0, 8.0);
        x.addLine(1, 4.0);
        x.addLine(1, 2.0);
        x.setLoad(2, 40);
        x.setShots(1, 1);
        x.simulate(1, 10, 100.0);
        for (int i = 0; i < 4; i++) {
            x.setMargin(0.3);
        }
        for (int i = 0; i < 4; i++) {
            x.undo();
        }
        return x;
    }

    private static Change[] changes() {
        return new Change[] {
            x -> x.setSource(20000.0, 3.0),
            x -> x.addLine(2, 7.0),
            x -> x.setLoad(3, 77),
            x -> x.setRelay(1, 300, 2, 5),
            x -> x.setInstantaneous(0, 900),
            x -> x.setShots(2, 3),
            x -> x.setStuck(0, true),
            x -> x.setMargin(0.7),
            x -> x.autoPickup(150),
            x -> x.autoGrade(),
            x -> x.simulate(2, 50, 3.0),
            x -> x.closeAll(),
        };
    }

    private static void promise30EveryUndoableMethod() {
        Change[] changes = changes();
        for (int i = 0; i < changes.length; i++) {
            FeederProtection x = busyWithoutSavedStates();
            long before = x.digest();
            changes[i].apply(x);
            Check.same("30: change " + i + " is another state", x.digest() != before, true);
            Check.same("30: undo of change " + i, x.undo(), 0);
            Check.same("30: undo of change " + i + ": digest()", x.digest(), before);
            changes[i].apply(x);
            changes[i].apply(x);
            Check.same("30: change " + i + " saves though it changes nothing", x.undo(), 1);
        }
    }

    private static void promise30FourStates() {
        FeederProtection x = new FeederProtection();
        Class<?> empty = IllegalStateException.class;
        Check.refused("30: empty", x, empty, () -> x.undo());
        for (int line = 0; line < 9; line++) {
            x.addLine(line, 1.0 + line);
        }
        for (int left = 3; left >= 0; left--) {
            Check.same("30: left", x.undo(), left);
            Check.illegal("30: the line is gone", x, lookUp(x, left + 5));
            Check.same("30: the line before is there", x.pickup(left + 4), 100);
        }
        Check.refused("30: empty again", x, empty, () -> x.undo());
        Check.same("30: the next line", x.addLine(5, 1.0), 5);
        Check.same("30: one state", x.undo(), 0);
    }

    private static Check.Call lookUp(FeederProtection x, int relay) {
        return () -> x.pickup(relay);
    }

    private static void promise30NothingElseSaves() {
        FeederProtection x = busyWithoutSavedStates();
        x.loadCurrent(0);
        x.faultCurrent(0, 5);
        x.pickup(0);
        x.steps(0);
        x.upstream(0);
        x.operatingTime(0, 5.0);
        x.sensitivity(0);
        x.margin(1, 5);
        x.violationCount();
        x.violation(0);
        x.eventCount();
        x.clearedTime();
        x.openBreakers();
        x.lostLoad();
        x.digest();
        Check.illegal("30: a refused call saves nothing", x, () -> x.setLoad(0, 1));
        Check.refused("30: readers save nothing", x, IllegalStateException.class, () -> x.undo());
    }

    private static void promise30BringsBackEvents() {
        FeederProtection x = new FeederProtection();
        x.addLine(0, 1.0);
        x.simulate(0, 0, 9.0);
        x.closeAll();
        x.setStuck(0, true);
        x.simulate(0, 0, 9.0);
        Check.same("30: second simulation", x.event(1), 100);
        Check.same("30: undo of the second", x.undo(), 3);
        Check.same("30: first simulation", x.event(1), 200);
        Check.same("30: its time", x.eventTime(1), 0.05 + 0.06);
        Check.same("30: its clearing", x.clearedTime(), 0.05 + 0.06);
        x.undo();
        Check.same("30: stuck no more", x.setStuck(0, false), false);
        x.undo();
        Check.same("30: the breaker was closed", x.openBreakers(), 0);
        x.undo();
        Check.same("30: open again", x.openBreakers(), 1);
        x.undo();
        Check.same("30: before the first simulation", x.eventCount(), 0);
        Check.same("30: before the first simulation: clearedTime()", x.clearedTime(), 0.0);
    }

    private static long hash(long... values) {
        long h = 11901L;
        for (long v : values) {
            h = 31 * h + v;
        }
        return h;
    }

    private static long bits(double value) {
        return Double.doubleToLongBits(value);
    }

    private static void promise31NewObject() {
        FeederProtection x = new FeederProtection();
        long due = hash(0, bits(10000.0), bits(1.0), bits(0.3), 0, 0, 0, 0, bits(0.0));
        Check.same("31: new object", x.digest(), due);
        Check.same("31: again", x.digest(), due);
        x.setSource(123.456, 0.01);
        x.setMargin(5.0);
        long due2 = hash(2, bits(123.456), bits(0.01), bits(5.0), 0, 0, 0, 0, bits(0.0));
        Check.same("31: without lines", x.digest(), due2);
    }

    private static void promise31EveryValue() {
        FeederProtection x = new FeederProtection();
        x.addLine(0, 8.0);
        x.addLine(1, 0.1);
        x.setLoad(1, 11);
        x.setLoad(2, 22);
        x.setRelay(0, 333, 2, 19);
        x.setRelay(1, 55, 3, 7);
        x.setInstantaneous(0, 4444);
        x.setInstantaneous(1, 900);
        x.setShots(0, 1);
        x.setShots(1, 2);
        x.setStuck(0, true);
        x.simulate(1, 50, 0.2);
        double open = 0.04 + 0.06;
        long due = hash(4, bits(10000.0), bits(1.0), bits(0.3), 2,
            0, bits(8.0), 11, 333, 2, 19, 4444, 1, 1, bits(10000.0 / 9.0),
            1, bits(0.1), 22, 55, 3, 7, 900, 2, 0, bits(10000.0 / 9.1),
            0, x.violationCount(), 3, 1, bits(0.04), 201, bits(open), 301, bits(open + 0.5),
            bits(open));
        Check.same("31: every value", x.digest(), due);
    }

    /** Infinity, and doubles that are far from the middle, have their bits too. */
    private static void promise31Coverage() {
        FeederProtection x = new FeederProtection();
        x.addLine(0, 1.0);
        x.setStuck(0, true);
        x.simulate(0, 0, 1.0);
        long due = hash(3, bits(10000.0), bits(1.0), bits(0.3), 1,
            0, bits(1.0), 0, 100, 0, 1, 0, 0, 1, bits(5000.0),
            0, 0, 2, 0, bits(0.05), 100, bits(0.05), bits(Double.POSITIVE_INFINITY));
        Check.same("31: infinity", x.digest(), due);

        FeederProtection y = new FeederProtection();
        y.setSource(200.0 * (1.0 + 0x1p-52), 2.0);
        y.addLine(0, 1.0);
        y.setRelay(0, 100, 3, 20);
        double current = 200.0 * (1.0 + 0x1p-52) / 2.0;
        double trip = 0.05 * 20 * 120.0 / (current / 100 - 1.0);
        y.simulate(0, 0, 1.0);
        Check.same("31: a very late trip", trip > 9.1e15, true);
        long late = hash(4, bits(200.0 * (1.0 + 0x1p-52)), bits(2.0), bits(0.3), 1,
            0, bits(1.0), 0, 100, 3, 20, 0, 0, 0, bits(200.0 * (1.0 + 0x1p-52) / 3.0),
            1, 0, 2, 0, bits(trip), 200, bits(trip + 0.06), bits(trip + 0.06));
        Check.same("31: a very late trip: digest()", y.digest(), late);
    }
}
