/** The sentences of promises 23 to 29 that name an edge, each in a test of its own. */
public final class EventEdgesTest {
    private static final int RESTING = 20000;
    private static final double OPENED = 0.05 + 0.06;

    public static void main(String[] args) {
        countOfNoSimulation();
        countOfTheLatest();
        eventIndex();
        eventIndexOfNone();
        eventKindsAndRelays();
        eventKindNames();
        eventOrder();
        timeIndex();
        timeIndexOfNone();
        timeOfFirstAndLast();
        clearedWithoutSimulation();
        clearedEndedAtFirst();
        clearedNobodyTrips();
        clearedNoneOpens();
        clearedLatestOfItsRounds();
        clearedLastRoundEndsInOne();
        openNoneToTwelve();
        lostNoneToAll();
        lostEachBusOnce();
        lostOnlyBehind();
        closeNoneToTwelve();
        closeAgain();
        Check.finish("EventEdgesTest");
    }

    /** Seventy-four events would be due; fourteen are not recorded. */
    private static FeederProtection full() {
        FeederProtection x = Edges.chain(12);
        for (int relay = 0; relay < 11; relay++) {
            x.setStuck(relay, true);
        }
        x.setShots(11, 2);
        x.simulate(11, 0, 1000.0);
        return x;
    }

    private static FeederProtection two() {
        FeederProtection x = Edges.chain(1);
        x.simulate(0, 0, 1.0);
        return x;
    }

    private static void countOfNoSimulation() {
        Check.sentence(23, "Returns 0 to 60; 0 if there was no simulation.");
        Check.same("a new object", new FeederProtection().eventCount(), 0);
        Check.same("a network", Edges.chain(12).eventCount(), 0);
        Check.same("the greatest", full().eventCount(), 60);
        FeederProtection x = two();
        x.undo();
        Check.same("a simulation that was taken back", x.eventCount(), 0);
    }

    private static void countOfTheLatest() {
        Check.sentence(23, "Returns the number of recorded events of the latest simulation.");
        FeederProtection x = two();
        Check.same("two", x.eventCount(), 2);
        x.closeAll();
        Check.same("closeAll removes none", x.eventCount(), 2);
        x.addLine(0, 1.0);
        x.setRelay(0, RESTING, 0, 1);
        Check.same("nor do other changes", x.eventCount(), 2);
        x.simulate(0, 0, 1.0);
        Check.same("the latest has none", x.eventCount(), 0);
        x.undo();
        Check.same("undo brings them back", x.eventCount(), 2);
    }

    private static void eventIndex() {
        Check.sentence(24, "`index`: 0 to eventCount() - 1");
        FeederProtection x = full();
        Check.same("the first", x.event(0), 11);
        Check.same("the last", x.event(59), 6);
        for (int index : new int[] {-1, 60, 61, Integer.MIN_VALUE, Integer.MAX_VALUE}) {
            Edges.refused(Edges.INDEX, "event(" + index + ") of 60", EventEdgesTest::full,
                y -> y.event(index));
        }
        for (int index : new int[] {-1, 2, 59, 60, Integer.MIN_VALUE, Integer.MAX_VALUE}) {
            Edges.refused(Edges.INDEX, "event(" + index + ") of 2", EventEdgesTest::two,
                y -> y.event(index));
        }
    }

    private static void eventIndexOfNone() {
        Check.sentence(24, "Throws `IndexOutOfBoundsException` if there is no such event");
        for (int index : new int[] {-1, 0, 1, 59, 60, Integer.MIN_VALUE, Integer.MAX_VALUE}) {
            Edges.refused(Edges.INDEX, "event(" + index + ") without a simulation",
                FeederProtection::new, x -> x.event(index));
            Edges.refused(Edges.INDEX, "event(" + index + ") of none", EventEdgesTest::removed,
                x -> x.event(index));
        }
    }

    /** The latest simulation has no events, the one before had some. */
    private static FeederProtection removed() {
        FeederProtection x = two();
        x.simulate(0, 0, 1.0);
        return x;
    }

    private static void eventKindsAndRelays() {
        Check.sentence(24, "Returns 100 * kind + relay.");
        FeederProtection x = Edges.chain(12);
        x.setStuck(11, true);
        x.setShots(0, 1);
        for (int relay = 1; relay < 11; relay++) {
            x.setRelay(relay, RESTING, 0, 1);
        }
        x.simulate(11, 0, 0.1);
        int[] due = {11, 111, 0, 200, 300};
        Check.same("eventCount()", x.eventCount(), due.length);
        for (int index = 0; index < due.length; index++) {
            Check.same("event(" + index + ")", x.event(index), due[index]);
        }
        FeederProtection y = Edges.chain(12);
        y.setShots(11, 1);
        y.simulate(11, 0, 0.1);
        Check.same("OPEN of relay 11", y.event(12), 211);
        Check.same("CLOSE of relay 11", y.event(24), 311);
    }

    private static void eventKindNames() {
        Check.sentence(24, "public static final int TRIP = 0, STUCK = 1, OPEN = 2, CLOSE = 3;");
        FeederProtection x = Edges.chain(2);
        x.setStuck(1, true);
        x.setShots(0, 1);
        x.simulate(1, 0, 0.1);
        Check.same("TRIP", x.event(0), 100 * FeederProtection.TRIP + 1);
        Check.same("STUCK", x.event(1), 100 * FeederProtection.STUCK + 1);
        Check.same("OPEN", x.event(3), 100 * FeederProtection.OPEN);
        Check.same("CLOSE", x.event(4), 100 * FeederProtection.CLOSE);
        Check.same("all different", FeederProtection.TRIP + 10 * FeederProtection.STUCK
            + 100 * FeederProtection.OPEN + 1000 * FeederProtection.CLOSE, 3210);
    }

    /** A trip of the second round stands behind the later opening of the first one. */
    private static void eventOrder() {
        Check.sentence(24, "The events are numbered in the order in which they were recorded.");
        FeederProtection x = Edges.chain(2);
        x.setRelay(0, 100, 0, 2);
        x.simulate(1, 0, 1.0);
        int[] due = {1, 0, 201, 200};
        for (int index = 0; index < due.length; index++) {
            Check.same("event(" + index + ")", x.event(index), due[index]);
        }
        Check.same("a later trip is recorded before an opening",
            x.eventTime(1) < x.eventTime(2), true);
        x.closeAll();
        x.setRelay(1, RESTING, 0, 1);
        x.setShots(0, 3);
        x.simulate(1, 0, 1000.0);
        for (int index = 1; index < 11; index++) {
            Check.same("rounds follow each other", x.eventTime(index) > x.eventTime(index - 1),
                true);
        }
    }

    private static void timeIndex() {
        Check.sentence(25, "`index`: 0 to eventCount() - 1");
        for (int index : new int[] {-1, 60, 61, Integer.MIN_VALUE, Integer.MAX_VALUE}) {
            Edges.refused(Edges.INDEX, "eventTime(" + index + ") of 60", EventEdgesTest::full,
                y -> y.eventTime(index));
        }
        for (int index : new int[] {-1, 2, 59, 60, Integer.MIN_VALUE, Integer.MAX_VALUE}) {
            Edges.refused(Edges.INDEX, "eventTime(" + index + ") of 2", EventEdgesTest::two,
                y -> y.eventTime(index));
        }
    }

    private static void timeIndexOfNone() {
        Check.sentence(25, "Throws `IndexOutOfBoundsException` if there is no such event");
        for (int index : new int[] {-1, 0, 1, 59, 60, Integer.MIN_VALUE, Integer.MAX_VALUE}) {
            Edges.refused(Edges.INDEX, "eventTime(" + index + ") without a simulation",
                FeederProtection::new, x -> x.eventTime(index));
            Edges.refused(Edges.INDEX, "eventTime(" + index + ") of none",
                EventEdgesTest::removed, x -> x.eventTime(index));
        }
    }

    private static void timeOfFirstAndLast() {
        Check.sentence(25, "Returns the time in seconds.");
        FeederProtection x = full();
        double second = OPENED + 0.5;
        double third = second + 0.05 + 0.06 + 0.5;
        Check.same("the first", x.eventTime(0), 0.05);
        Check.same("the last", x.eventTime(59), third + 0.05);
    }

    private static void clearedWithoutSimulation() {
        Check.sentence(26, "0.0 if there was no simulation, or the first round ended in step (1).");
        Check.same("a new object", new FeederProtection().clearedTime(), 0.0);
        Check.same("a network", Edges.chain(12).clearedTime(), 0.0);
        FeederProtection x = two();
        x.undo();
        Check.same("a simulation that was taken back", x.clearedTime(), 0.0);
    }

    private static void clearedEndedAtFirst() {
        Check.sentence(26, "0.0 if there was no simulation, or the first round ended in step (1).");
        FeederProtection x = two();
        Check.same("cleared", x.clearedTime(), OPENED);
        x.simulate(0, 0, 1.0);
        Check.same("the path is open", x.clearedTime(), 0.0);
        x.closeAll();
        x.setRelay(0, RESTING, 0, 1);
        x.simulate(0, 0, 1.0);
        Check.same("not cleared", x.clearedTime(), Edges.INFINITE);
        x.setRelay(0, 100, 0, 1);
        x.simulate(0, 0, 1.0);
        x.setRelay(0, RESTING, 0, 1);
        x.setStuck(0, true);
        x.simulate(0, 0, 1.0);
        Check.same("open, though none would trip and all are stuck", x.clearedTime(), 0.0);
    }

    private static void clearedNobodyTrips() {
        Check.sentence(26, "positive infinity if the last round ended without clearing the fault, "
            + "that is, in step (2) because no relay would trip, or in step (4) because no "
            + "breaker opened");
        FeederProtection x = Edges.chain(1);
        x.setRelay(0, 10000, 0, 1);
        x.simulate(0, 0, 0.001);
        Check.same("at the pickup", x.clearedTime(), Edges.INFINITE);
        x.setRelay(0, 9999, 0, 1);
        x.simulate(0, 0, 0.001);
        Check.same("above the pickup", x.clearedTime(), OPENED);
    }

    private static void clearedNoneOpens() {
        Check.sentence(26, "positive infinity if the last round ended without clearing the fault, "
            + "that is, in step (2) because no relay would trip, or in step (4) because no "
            + "breaker opened");
        FeederProtection x = Edges.chain(2);
        x.setStuck(0, true);
        x.setStuck(1, true);
        x.simulate(1, 0, 0.001);
        Check.same("both are stuck", x.clearedTime(), Edges.INFINITE);
        x.setStuck(0, false);
        x.simulate(1, 0, 0.001);
        Check.same("one is stuck", x.clearedTime(), OPENED);
    }

    private static void clearedLatestOfItsRounds() {
        Check.sentence(26, "Returns when the fault of the latest simulation was cleared: the "
            + "latest clearing time c of its rounds.");
        FeederProtection x = Edges.chain(1);
        x.setShots(0, 3);
        x.simulate(0, 0, 1000.0);
        double time = 0.0;
        for (int round = 0; round < 3; round++) {
            time = time + 0.05 + 0.06 + 0.5;
        }
        Check.same("of four rounds", x.clearedTime(), time + 0.05 + 0.06);
        FeederProtection y = Edges.chain(3);
        y.setRelay(1, 100, 0, 2);
        y.simulate(2, 0, 1.0);
        Check.same("c, not the later opening", y.clearedTime(), OPENED);
        Check.same("the later opening", y.eventTime(5), 0.05 * 2 + 0.06);
    }

    private static void clearedLastRoundEndsInOne() {
        Check.sentence(26, "the latest clearing time c of its rounds.");
        FeederProtection x = Edges.chain(1);
        x.setShots(0, 3);
        x.simulate(0, 0, 0.001);
        Check.same("the fault is gone in the second round", x.clearedTime(), OPENED);
        Check.same("and closed", x.openBreakers(), 0);
        x.simulate(0, 0, 1.0);
        Check.same("gone in the third round", x.clearedTime(), OPENED + 0.5 + 0.05 + 0.06);
        FeederProtection y = Edges.chain(2);
        y.setShots(1, 3);
        y.simulate(1, 0, 1000.0);
        Check.same("the path is open in the second round", y.clearedTime(), OPENED);
        Check.same("by the other breaker", y.openBreakers(), 1);
    }

    private static void openNoneToTwelve() {
        Check.sentence(27, "Returns a bit mask of relays.");
        FeederProtection x = Edges.star(12);
        Check.same("none", x.openBreakers(), 0);
        int mask = 0;
        for (int relay = 0; relay < 12; relay++) {
            x.simulate(relay, 0, 1.0);
            mask += 1 << relay;
            Check.same("up to " + relay, x.openBreakers(), mask);
        }
        Check.same("all", mask, 4095);
        x.closeAll();
        x.simulate(11, 0, 1.0);
        Check.same("the last alone", x.openBreakers(), 2048);
    }

    private static void lostNoneToAll() {
        Check.sentence(28, "Returns the load that is not supplied: the sum of the loads of all "
            + "buses whose path from bus 0 contains a line with an open breaker.");
        Check.same("a new object", new FeederProtection().lostLoad(), 0);
        for (int free = 0; free < 12; free++) {
            FeederProtection x = Edges.chain(12);
            for (int relay = 0; relay < 12; relay++) {
                x.setLoad(relay + 1, 5000);
                x.setStuck(relay, relay != free);
            }
            Check.same("none is open", x.lostLoad(), 0);
            x.simulate(11, 0, 1.0);
            Check.same("open at " + free, x.lostLoad(), 5000 * (12 - free));
        }
    }

    private static void lostEachBusOnce() {
        Check.sentence(28, "the sum of the loads of all buses whose path from bus 0 contains a "
            + "line with an open breaker.");
        FeederProtection x = Edges.chain(12);
        for (int bus = 1; bus <= 12; bus++) {
            x.setLoad(bus, 5000);
        }
        x.simulate(11, 0, 1.0);
        Check.same("all are open", x.openBreakers(), 4095);
        Check.same("each bus once", x.lostLoad(), 60000);
    }

    private static void lostOnlyBehind() {
        Check.sentence(28, "the sum of the loads of all buses whose path from bus 0 contains a "
            + "line with an open breaker.");
        FeederProtection x = Edges.star(11);
        x.addLine(1, 1.0);
        for (int bus = 1; bus <= 12; bus++) {
            x.setLoad(bus, bus);
        }
        x.setStuck(0, true);
        x.simulate(11, 0, 1.0);
        Check.same("the last line alone", x.lostLoad(), 12);
        x.setStuck(0, false);
        x.simulate(0, 0, 1.0);
        Check.same("the first line, and the last behind it", x.lostLoad(), 13);
        x.simulate(10, 0, 1.0);
        Check.same("and one beside them", x.lostLoad(), 24);
        x.closeAll();
        Check.same("all closed", x.lostLoad(), 0);
    }

    private static void closeNoneToTwelve() {
        Check.sentence(29, "Returns the number of breakers that were open.");
        Check.same("a new object", new FeederProtection().closeAll(), 0);
        for (int lines = 0; lines <= 12; lines++) {
            FeederProtection x = Edges.chain(12);
            if (lines > 0) {
                x.simulate(lines - 1, 0, 1.0);
            }
            Check.same("of " + lines, x.closeAll(), lines);
            Check.same("openBreakers() then", x.openBreakers(), 0);
        }
    }

    private static void closeAgain() {
        Check.sentence(29, "Closes all breakers.");
        FeederProtection x = Edges.chain(12);
        x.simulate(11, 0, 1.0);
        x.setStuck(0, true);
        x.setStuck(11, true);
        Check.same("the stuck ones too", x.closeAll(), 12);
        Check.same("again", x.closeAll(), 0);
        Check.same("they stay stuck", x.setStuck(11, true), true);
        Check.same("a fault finds all closed", x.simulate(11, 0, 1.0), 24);
    }
}
