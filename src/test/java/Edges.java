/**
 * What the tests of the edges share: calls that are taken or refused at the ends of a range, and
 * the comparison of an object with a twin that was made by the same calls.
 */
final class Edges {
    static final Class<?> ILLEGAL = IllegalArgumentException.class;
    static final Class<?> STATE = IllegalStateException.class;
    static final Class<?> INDEX = IndexOutOfBoundsException.class;
    static final double INFINITE = Double.POSITIVE_INFINITY;

    /** Makes an object by some calls, each time the same ones. */
    interface Maker {
        FeederProtection make();
    }

    interface Call {
        void on(FeederProtection x);
    }

    interface IntCall {
        void on(FeederProtection x, int value);
    }

    interface DoubleCall {
        void on(FeederProtection x, double value);
    }

    private Edges() {
    }

    /** Each line begins where the one before ends. */
    static FeederProtection chain(int lines) {
        FeederProtection x = new FeederProtection();
        for (int line = 0; line < lines; line++) {
            x.addLine(line, 1.0);
        }
        return x;
    }

    /** Each line begins at bus 0. */
    static FeederProtection star(int lines) {
        FeederProtection x = new FeederProtection();
        for (int line = 0; line < lines; line++) {
            x.addLine(0, 1.0);
        }
        return x;
    }

    /** Nothing in it is as it was at first, and the undo stack is full. */
    static FeederProtection busy() {
        FeederProtection x = chain(3);
        x.addLine(1, 2.0);
        x.setSource(12000.0, 0.5);
        x.setMargin(0.2);
        for (int line = 0; line < 4; line++) {
            x.setLoad(line + 1, 10 + line);
            x.setRelay(line, 200 + line, line, 5 + line);
            x.setInstantaneous(line, 90000 + line);
            x.setShots(line, line);
        }
        x.setStuck(2, true);
        x.simulate(2, 50, 1.0);
        x.setStuck(0, true);
        return x;
    }

    /** The call ends normally. */
    static void taken(String what, Maker maker, Call call) {
        FeederProtection x = maker.make();
        Check.same(what + " throws", Check.thrownBy(() -> call.on(x)), "nothing");
    }

    /** The call throws just this exception, and changes nothing, not in a saved state either. */
    static void refused(Class<?> kind, String what, Maker maker, Call call) {
        FeederProtection x = maker.make();
        FeederProtection twin = maker.make();
        Check.same(what + " throws", Check.thrownBy(() -> call.on(x)), kind.getName());
        Check.same(what + " throws; then the answers", everyAnswer(x), everyAnswer(twin));
        for (int i = 0; i < 5; i++) {
            String due = Check.thrownBy(() -> twin.undo());
            Check.same(what + " throws; then undo throws", Check.thrownBy(() -> x.undo()), due);
            Check.same(what + " throws; then digest() after undo", x.digest(), twin.digest());
        }
    }

    /** Both ends are taken, and what lies beyond them is refused. */
    static void ints(String name, int low, int high, Maker maker, IntCall call) {
        for (int value : new int[] {low, low + 1, high - 1, high}) {
            if (value >= low && value <= high) {
                taken(name + " " + value, maker, x -> call.on(x, value));
            }
        }
        for (int value : new int[] {low - 1, high + 1, Integer.MIN_VALUE, Integer.MAX_VALUE}) {
            refused(ILLEGAL, name + " " + value, maker, x -> call.on(x, value));
        }
    }

    /** Both ends are taken, and the next doubles beyond them are refused. */
    static void doubles(String name, double low, double high, Maker maker, DoubleCall call) {
        for (double value : new double[] {low, Math.nextUp(low), Math.nextDown(high), high}) {
            taken(name + " " + value, maker, x -> call.on(x, value));
        }
        double[] beyond = {Math.nextDown(low), Math.nextUp(high), -1.0, -high, -Double.MAX_VALUE,
            Double.MAX_VALUE, INFINITE, Double.NEGATIVE_INFINITY};
        for (double value : beyond) {
            refused(ILLEGAL, name + " " + value, maker, x -> call.on(x, value));
        }
        if (low > 0.0) {
            refused(ILLEGAL, name + " 0.0", maker, x -> call.on(x, 0.0));
            refused(ILLEGAL, name + " -0.0", maker, x -> call.on(x, -0.0));
        }
    }

    static void notANumber(String name, Maker maker, DoubleCall call) {
        refused(ILLEGAL, name + " NaN", maker, x -> call.on(x, Double.NaN));
        refused(ILLEGAL, name + " -NaN", maker,
            x -> call.on(x, Double.longBitsToDouble(0xfff8000000000001L)));
    }

    /** The relays or lines from 0 to the last one that there is: of one, of four, of twelve. */
    static void existing(String name, IntCall call) {
        ints(name + " of one,", 0, 0, () -> chain(1), call);
        ints(name + " of four,", 0, 3, Edges::busy, call);
        ints(name + " of twelve,", 0, 11, () -> chain(12), call);
    }

    /** The relays or lines beside those that there are: of none, of some, of twelve. */
    static void noSuch(String name, IntCall call) {
        for (int lines = 0; lines <= 12; lines++) {
            int count = lines;
            for (int value : new int[] {-1, count, 12}) {
                refused(ILLEGAL, name + " " + value + " of " + count, () -> chain(count),
                    x -> call.on(x, value));
            }
        }
        // A shift by 32 or more places wraps in Java, so a mask must not be asked for these.
        for (int value : new int[] {31, 32, 33, 64, -32, Integer.MIN_VALUE, Integer.MAX_VALUE}) {
            refused(ILLEGAL, name + " " + value, () -> chain(12), x -> call.on(x, value));
        }
        FeederProtection x = chain(4);
        x.undo();
        Check.same(name + " that undo took away", Check.thrownBy(() -> call.on(x, 3)),
            ILLEGAL.getName());
    }

    /** All that the object tells without being changed: fewer than 300 calls. */
    static String everyAnswer(FeederProtection x) {
        StringBuilder all = new StringBuilder();
        for (int line = 0; line <= 12; line++) {
            int k = line;
            add(all, () -> x.loadCurrent(k));
            add(all, () -> bits(x.faultCurrent(k, 100)));
            add(all, () -> x.pickup(k));
            add(all, () -> x.steps(k));
            add(all, () -> x.upstream(k));
            add(all, () -> bits(x.operatingTime(k, 5000.0)));
            add(all, () -> bits(x.sensitivity(k)));
            add(all, () -> bits(x.margin(k, 0)));
            add(all, () -> x.violation(k));
        }
        for (int index = 0; index < x.eventCount(); index++) {
            int k = index;
            add(all, () -> x.event(k));
            add(all, () -> bits(x.eventTime(k)));
        }
        add(all, () -> x.violationCount());
        add(all, () -> x.eventCount());
        add(all, () -> bits(x.clearedTime()));
        add(all, () -> x.openBreakers());
        add(all, () -> x.lostLoad());
        add(all, () -> x.digest());
        return all.toString();
    }

    private interface Answer {
        long get();
    }

    private static void add(StringBuilder all, Answer answer) {
        try {
            all.append(answer.get()).append(' ');
        } catch (RuntimeException e) {
            all.append(e.getClass().getSimpleName()).append(' ');
        }
    }

    static long bits(double value) {
        return Double.doubleToLongBits(value);
    }

    /** Pairs of what event() and eventTime() are due to answer. */
    static void events(String what, FeederProtection x, double... due) {
        Check.same(what + ": eventCount()", x.eventCount(), due.length / 2);
        for (int i = 0; i < Math.min(x.eventCount(), due.length / 2); i++) {
            Check.same(what + ": event(" + i + ")", x.event(i), (long) due[2 * i]);
            Check.same(what + ": eventTime(" + i + ")", x.eventTime(i), due[2 * i + 1]);
        }
    }
}
