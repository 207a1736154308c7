/** Promises 22 to 29: faults, their events, open breakers and lost load. */
public final class SimulationTest {
    private static final double INFINITE = Double.POSITIVE_INFINITY;
    private static final Class<?> NO_INDEX = IndexOutOfBoundsException.class;

    public static void main(String[] args) {
        promise22WrongArguments();
        promise22OrderOfEqualTimes();
        promise22StuckBreakers();
        promise22Race();
        promise22Reclosing();
        promise22ReclosingClearsAShortFault();
        promise22DurationIsNoMore();
        promise22ShotsOfTheGreatest();
        promise22OpenBreakersBefore();
        promise22SixtyEvents();
        promises23To25Events();
        promise26ClearedTime();
        promise27OpenBreakers();
        promise28LostLoad();
        promise29CloseAll();
        Check.finish("SimulationTest");
    }

    private static FeederProtection chain(int lines) {
        FeederProtection x = new FeederProtection();
        for (int line = 0; line < lines; line++) {
            x.addLine(line, 1.0);
        }
        return x;
    }

    /** Pairs of what event() and eventTime() are due to answer. */
    private static void events(String what, FeederProtection x, double... due) {
        Check.same(what + ": eventCount()", x.eventCount(), due.length / 2);
        for (int i = 0; i < Math.min(x.eventCount(), due.length / 2); i++) {
            Check.same(what + ": event(" + i + ")", x.event(i), (long) due[2 * i]);
            Check.same(what + ": eventTime(" + i + ")", x.eventTime(i), due[2 * i + 1]);
        }
    }

    private static void promise22WrongArguments() {
        FeederProtection x = chain(2);
        x.simulate(1, 0, 5.0);
        Check.illegal("22: line 2", x, () -> x.simulate(2, 0, 5.0));
        Check.illegal("22: line -1", x, () -> x.simulate(-1, 0, 5.0));
        Check.illegal("22: -1 percent", x, () -> x.simulate(0, -1, 5.0));
        Check.illegal("22: 101 percent", x, () -> x.simulate(0, 101, 5.0));
        double[] wrong = {0.0009999999999999998, 1000000.0000000001, 0.0, -1.0, Double.NaN,
            INFINITE, Double.NEGATIVE_INFINITY};
        for (double duration : wrong) {
            Check.illegal("22: duration " + duration, x, () -> x.simulate(0, 0, duration));
        }
        Check.same("22: events kept", x.eventCount(), 4);
        x.closeAll();
        Check.same("22: shortest", x.simulate(1, 0, 0.001), 4);
        x.closeAll();
        Check.same("22: longest", x.simulate(1, 100, 1000000.0), 4);
        Check.illegal("22: no lines", new FeederProtection(),
            () -> new FeederProtection().simulate(0, 0, 5.0));
    }

    private static void promise22OrderOfEqualTimes() {
        FeederProtection x = chain(3);
        x.addLine(1, 1.0);
        Check.same("22: equal times", x.simulate(2, 50, 100.0), 6);
        events("22: equal times", x, 2, 0.05, 1, 0.05, 0, 0.05,
            202, 0.05 + 0.06, 201, 0.05 + 0.06, 200, 0.05 + 0.06);
        Check.same("22: equal times: openBreakers()", x.openBreakers(), 7);
        x.closeAll();
        x.setRelay(1, 20000, 0, 1);
        x.setRelay(0, 100, 0, 3);
        x.simulate(2, 50, 100.0);
        events("22: relay 1 rests, relay 0 is late", x, 2, 0.05, 202, 0.05 + 0.06);
    }

    private static void promise22StuckBreakers() {
        FeederProtection x = chain(3);
        x.setRelay(2, 100, 0, 1);
        x.setRelay(1, 100, 0, 2);
        x.setRelay(0, 100, 0, 9);
        x.setStuck(2, true);
        x.simulate(2, 0, 100.0);
        double c = 0.05 * 2 + 0.06;
        events("22: backup", x, 2, 0.05, 102, 0.05, 1, 0.05 * 2, 201, c);
        Check.same("22: backup: clearedTime()", x.clearedTime(), c);
        Check.same("22: backup: openBreakers()", x.openBreakers(), 2);
        x.closeAll();
        x.setStuck(1, true);
        x.setStuck(0, true);
        Check.same("22: all stuck", x.simulate(2, 0, 100.0), 6);
        events("22: all stuck", x, 2, 0.05, 102, 0.05, 1, 0.05 * 2, 101, 0.05 * 2,
            0, 0.05 * 9, 100, 0.05 * 9);
        Check.same("22: all stuck: clearedTime()", x.clearedTime(), INFINITE);
        Check.same("22: all stuck: openBreakers()", x.openBreakers(), 0);
        x.setStuck(0, false);
        x.setStuck(2, false);
        x.setRelay(1, 100, 0, 2);
        x.simulate(2, 0, 100.0);
        events("22: a stuck one trips before c", x, 2, 0.05, 1, 0.05 * 2, 101, 0.05 * 2,
            202, 0.05 + 0.06);
    }

    /** A trip time must be less than c: what trips at c does not trip. */
    private static void promise22Race() {
        FeederProtection x = chain(2);
        x.setRelay(1, 100, 0, 1);
        x.setRelay(0, 100, 0, 2);
        x.simulate(1, 0, 100.0);
        double late = 0.05 * 2;
        events("22: race", x, 1, 0.05, 0, late, 201, 0.05 + 0.06, 200, late + 0.06);
        Check.same("22: race: clearedTime()", x.clearedTime(), 0.05 + 0.06);
        Check.same("22: race: openBreakers()", x.openBreakers(), 3);
        x.closeAll();
        x.setInstantaneous(1, 1);
        x.simulate(1, 0, 100.0);
        Check.same("22: 0.04 + 0.06 is 0.05 * 2", 0.04 + 0.06, late);
        events("22: a trip at c", x, 1, 0.04, 201, 0.04 + 0.06);
        Check.same("22: a trip at c: openBreakers()", x.openBreakers(), 2);
    }

    private static void promise22Reclosing() {
        for (int shots = 0; shots <= 3; shots++) {
            FeederProtection x = chain(1);
            x.setRelay(0, 200, 0, 4);
            x.setShots(0, shots);
            Check.same("22: reclosing, count", x.simulate(0, 50, 8000.0), 2 + 3 * shots);
            double time = 0.0;
            double c = 0.0;
            for (int round = 0; round <= shots; round++) {
                double trip = time + 0.05 * 4;
                c = trip + 0.06;
                Check.same("22: trip", x.event(3 * round), 0);
                Check.same("22: trip time", x.eventTime(3 * round), trip);
                Check.same("22: open", x.event(3 * round + 1), 200);
                Check.same("22: open time", x.eventTime(3 * round + 1), c);
                if (round < shots) {
                    time = c + 0.5;
                    Check.same("22: close", x.event(3 * round + 2), 300);
                    Check.same("22: close time", x.eventTime(3 * round + 2), time);
                }
            }
            Check.same("22: reclosing, clearedTime()", x.clearedTime(), c);
            Check.same("22: reclosing, openBreakers()", x.openBreakers(), 1);
        }
    }

    private static void promise22ReclosingClearsAShortFault() {
        FeederProtection x = chain(1);
        x.setShots(0, 3);
        Check.same("22: short fault", x.simulate(0, 50, 0.4), 3);
        events("22: short fault", x, 0, 0.05, 200, 0.05 + 0.06, 300, 0.05 + 0.06 + 0.5);
        Check.same("22: short fault: clearedTime()", x.clearedTime(), 0.05 + 0.06);
        Check.same("22: short fault: openBreakers()", x.openBreakers(), 0);
        Check.same("22: gone before the trip", x.simulate(0, 50, 0.01), 3);
        Check.same("22: a new simulation counts anew", x.simulate(0, 50, 8000.0), 11);
    }

    private static void promise22DurationIsNoMore() {
        double second = 0.05 + 0.06 + 0.5;
        FeederProtection x = chain(1);
        x.setShots(0, 1);
        Check.same("22: until just after the closing", x.simulate(0, 0, second + 1e-9), 5);
        x.closeAll();
        Check.same("22: until the closing", x.simulate(0, 0, second), 3);
        Check.same("22: until the closing: openBreakers()", x.openBreakers(), 0);
    }

    /** Two breakers open: the one with the greater number recloses, the other one stays open. */
    private static void promise22ShotsOfTheGreatest() {
        FeederProtection x = chain(2);
        x.setRelay(1, 100, 0, 2);
        x.setRelay(0, 100, 0, 1);
        x.setShots(1, 3);
        x.simulate(1, 0, 8000.0);
        double open0 = 0.05 + 0.06;
        double open1 = 0.05 * 2 + 0.06;
        events("22: the greatest recloses", x, 0, 0.05, 1, 0.05 * 2, 200, open0, 201, open1,
            301, open1 + 0.5);
        Check.same("22: the greatest recloses: openBreakers()", x.openBreakers(), 1);
        Check.same("22: the greatest recloses: clearedTime()", x.clearedTime(), open0);
        x.closeAll();
        x.setShots(1, 0);
        x.setShots(0, 3);
        Check.same("22: the shots of the other one", x.simulate(1, 0, 8000.0), 4);
        Check.same("22: the shots of the other one: openBreakers()", x.openBreakers(), 3);
    }

    private static void promise22OpenBreakersBefore() {
        FeederProtection x = chain(2);
        x.addLine(1, 1.0);
        x.setRelay(0, 20000, 0, 1);
        x.simulate(1, 0, 100.0);
        Check.same("22: open before: openBreakers()", x.openBreakers(), 2);
        Check.same("22: open on the path", x.simulate(1, 50, 100.0), 0);
        Check.same("22: open on the path: clearedTime()", x.clearedTime(), 0.0);
        Check.same("22: open elsewhere", x.simulate(2, 50, 100.0), 2);
        Check.same("22: both open", x.openBreakers(), 6);
        Check.same("22: the line before", x.simulate(0, 50, 100.0), 0);
        Check.same("22: the line before: clearedTime()", x.clearedTime(), INFINITE);
    }

    private static void promise22SixtyEvents() {
        FeederProtection x = chain(12);
        for (int relay = 1; relay < 12; relay++) {
            x.setStuck(relay, true);
            x.setLoad(relay + 1, 10);
        }
        x.setShots(0, 3);
        Check.same("22: sixty events", x.simulate(11, 0, 8000.0), 60);
        Check.same("22: sixty: eventCount()", x.eventCount(), 60);
        double first = 0.05 + 0.06 + 0.5;
        double second = first + 0.05 + 0.06 + 0.5;
        Check.same("22: sixty: event(50)", x.event(50), 11);
        Check.same("22: sixty: eventTime(59)", x.eventTime(59), second + 0.05);
        Check.same("22: sixty: event(59)", x.event(59), 107);
        double third = second + 0.05 + 0.06 + 0.5;
        Check.same("22: the rest has its effects", x.clearedTime(), third + 0.05 + 0.06);
        Check.same("22: sixty: openBreakers()", x.openBreakers(), 1);
        Check.refused("22: event(60)", x, NO_INDEX, () -> x.event(60));
        Check.refused("22: eventTime(60)", x, NO_INDEX, () -> x.eventTime(60));
    }

    private static void promises23To25Events() {
        FeederProtection x = chain(2);
        Check.refused("24: event(0) at first", x, NO_INDEX, () -> x.event(0));
        Check.refused("25: eventTime(0) at first", x, NO_INDEX, () -> x.eventTime(0));
        x.setRelay(0, 20000, 0, 1);
        x.simulate(1, 0, 100.0);
        Check.same("23: eventCount()", x.eventCount(), 2);
        Check.same("24: event(0)", x.event(0), 100 * FeederProtection.TRIP + 1);
        Check.same("24: event(1)", x.event(1), 100 * FeederProtection.OPEN + 1);
        Check.same("25: eventTime(0)", x.eventTime(0), 0.05);
        Check.same("25: eventTime(1)", x.eventTime(1), 0.05 + 0.06);
        for (int index : new int[] {-1, 2, 59, 60, Integer.MIN_VALUE, Integer.MAX_VALUE}) {
            Check.refused("24: event(" + index + ")", x, NO_INDEX, () -> x.event(index));
            Check.refused("25: eventTime(" + index + ")", x, NO_INDEX, () -> x.eventTime(index));
        }
        x.closeAll();
        Check.same("23: closeAll keeps the events", x.eventCount(), 2);
        x.simulate(0, 100, 100.0);
        Check.same("23: the next simulation removes them", x.eventCount(), 0);
        Check.refused("24: event(0) removed", x, NO_INDEX, () -> x.event(0));
    }

    private static void promise26ClearedTime() {
        FeederProtection x = chain(1);
        Check.same("26: no simulation", x.clearedTime(), 0.0);
        x.setRelay(0, 20000, 0, 1);
        Check.same("26: nobody trips", x.simulate(0, 0, 100.0), 0);
        Check.same("26: nobody trips: clearedTime()", x.clearedTime(), INFINITE);
        x.setRelay(0, 100, 0, 1);
        x.simulate(0, 0, 100.0);
        Check.same("26: cleared", x.clearedTime(), 0.05 + 0.06);
        x.simulate(0, 0, 100.0);
        Check.same("26: the first round ends in (1)", x.clearedTime(), 0.0);
        x.closeAll();
        x.setStuck(0, true);
        x.simulate(0, 0, 100.0);
        Check.same("26: nothing opens", x.clearedTime(), INFINITE);
        x.closeAll();
        Check.same("26: closeAll keeps it", x.clearedTime(), INFINITE);
    }

    private static void promise27OpenBreakers() {
        FeederProtection x = new FeederProtection();
        for (int line = 0; line < 12; line++) {
            x.addLine(0, 1.0);
        }
        int mask = 0;
        for (int line = 11; line >= 0; line--) {
            x.simulate(line, 0, 1.0);
            mask |= 1 << line;
            Check.same("27: openBreakers()", x.openBreakers(), mask);
        }
        x.undo();
        Check.same("27: after undo", x.openBreakers(), 4094);
    }

    private static void promise28LostLoad() {
        FeederProtection x = new FeederProtection();
        x.addLine(0, 1.0);
        x.addLine(1, 1.0);
        x.addLine(2, 1.0);
        x.addLine(1, 1.0);
        x.addLine(0, 1.0);
        int[] loads = {1, 20, 300, 4000, 5000};
        for (int bus = 1; bus <= 5; bus++) {
            x.setLoad(bus, loads[bus - 1]);
        }
        Check.same("28: nothing open", x.lostLoad(), 0);
        x.setRelay(0, 20000, 0, 1);
        x.setRelay(1, 20000, 0, 1);
        x.simulate(2, 0, 100.0);
        Check.same("28: the end of the line", x.lostLoad(), 300);
        x.simulate(3, 0, 100.0);
        Check.same("28: two ends", x.lostLoad(), 4300);
        x.setRelay(1, 100, 0, 1);
        x.simulate(1, 0, 100.0);
        Check.same("28: each bus once", x.lostLoad(), 4320);
        x.setLoad(3, 301);
        Check.same("28: of now", x.lostLoad(), 4321);
        x.addLine(3, 1.0);
        x.setLoad(6, 600);
        Check.same("28: a line behind", x.lostLoad(), 4921);
        x.closeAll();
        Check.same("28: closed", x.lostLoad(), 0);
    }

    private static void promise29CloseAll() {
        FeederProtection x = chain(3);
        Check.same("29: nothing open", x.closeAll(), 0);
        x.simulate(2, 0, 100.0);
        x.setStuck(1, true);
        Check.same("29: three open", x.closeAll(), 3);
        Check.same("29: openBreakers()", x.openBreakers(), 0);
        Check.same("29: again", x.closeAll(), 0);
        Check.same("29: stuck stays", x.setStuck(1, false), true);
    }
}
