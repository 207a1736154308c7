/** The sentences of promise 22 that name an edge, each in a test of its own. */
public final class SimulationEdgesTest {
    private static final int RESTING = 20000;
    /** When a relay of one definite step has tripped, opened and closed again. */
    private static final double OPENED = 0.05 + 0.06;
    private static final double CLOSED = 0.05 + 0.06 + 0.5;

    public static void main(String[] args) {
        faultOfExistingLine();
        faultPercent();
        faultDuration();
        faultDurationNotANumber();
        faultRefusesWhole();
        faultExistsAtFirst();
        faultExistsNoMore();
        faultVanishesMeanwhile();
        openBreakerOfThePath();
        openBreakerBesideThePath();
        nobodyTrips();
        tripsAtThePickup();
        equalTimes();
        equalTimesOfALaterRound();
        timesBeforeNumbers();
        stuckAndNextRelay();
        allStuck();
        firstThatIsNotStuck();
        tripAtTheOpening();
        tripAroundTheOpening();
        tripBeforeTheFirstOpeningOnly();
        stuckBeforeTheOpening();
        openInTheOrderOfTaking();
        shotsNoneToThree();
        shotsAreUsedUp();
        shotsInTheWholeSimulation();
        shotsOfTheGreatest();
        shotsOfTheGreatestOfALaterRound();
        shotsOfTheGreatestOfTwelve();
        closingIsBehindItsOwnOpening();
        fiftyNineEvents();
        sixtyEventsOfSixtyAndOfSixtyOne();
        sixtyEventsOfSixtyTwo();
        sixtyEventsAndTheRest();
        eventsRemovedFirst();
        openUntilCloseAll();
        returnsTheEvents();
        Check.finish("SimulationEdgesTest");
    }

    private static void faultOfExistingLine() {
        Check.sentence(22, "`line`: number of an existing line");
        Edges.existing("line", (x, line) -> x.simulate(line, 50, 1.0));
        Edges.noSuch("line", (x, line) -> x.simulate(line, 50, 1.0));
    }

    private static void faultPercent() {
        Check.sentence(22, "`percent`: 0 to 100");
        Edges.ints("percent", 0, 100, Edges::busy, (x, v) -> x.simulate(3, v, 1.0));
        FeederProtection x = Edges.chain(1);
        x.setRelay(0, 5000, 0, 1);
        Check.same("100: 5000.0 amperes", x.simulate(0, 100, 1.0), 0);
        Check.same("99: more", x.simulate(0, 99, 1.0), 2);
        x.closeAll();
        x.setRelay(0, 10000, 0, 1);
        Check.same("0: 10000.0 amperes", x.simulate(0, 0, 1.0), 0);
        x.setRelay(0, 9999, 0, 1);
        Check.same("0: 10000.0 amperes are more", x.simulate(0, 0, 1.0), 2);
    }

    private static void faultDuration() {
        Check.sentence(22, "`duration`: 0.001 to 1000000.0 seconds");
        Edges.doubles("duration", 0.001, 1000000.0, Edges::busy,
            (x, v) -> x.simulate(3, 50, v));
    }

    private static void faultDurationNotANumber() {
        Check.sentence(22, "A double argument that is not a number is out of range.");
        Edges.notANumber("duration", Edges::busy, (x, v) -> x.simulate(3, 50, v));
    }

    private static void faultRefusesWhole() {
        Check.sentence(22, "Throws `IllegalArgumentException` if an argument is out of range");
        Edges.refused(Edges.ILLEGAL, "wrong line", Edges::busy, x -> x.simulate(4, 50, 1.0));
        Edges.refused(Edges.ILLEGAL, "wrong percent", Edges::busy, x -> x.simulate(3, 101, 1.0));
        Edges.refused(Edges.ILLEGAL, "wrong duration", Edges::busy, x -> x.simulate(3, 50, 0.0));
        Edges.refused(Edges.ILLEGAL, "all wrong", Edges::busy, x -> x.simulate(-1, -1, -1.0));
    }

    private static void faultExistsAtFirst() {
        Check.sentence(22, "It runs in rounds, the first one at the time 0.0.");
        FeederProtection x = Edges.chain(1);
        x.simulate(0, 0, 0.001);
        Edges.events("the shortest fault", x, 0, 0.05, 200, OPENED);
    }

    private static void faultExistsNoMore() {
        Check.sentence(22, "it exists from time 0.0 until the duration has passed (at the time "
            + "of the duration it exists no more).");
        double[] durations = {Math.nextDown(CLOSED), CLOSED, Math.nextUp(CLOSED)};
        int[] due = {3, 3, 5};
        for (int i = 0; i < 3; i++) {
            FeederProtection x = Edges.chain(1);
            x.setShots(0, 1);
            Check.same("duration " + durations[i], x.simulate(0, 0, durations[i]), due[i]);
            Check.same("closed at", x.eventTime(2), CLOSED);
            Check.same("openBreakers()", x.openBreakers(), due[i] == 3 ? 0 : 1);
            Check.same("clearedTime()", x.clearedTime(),
                due[i] == 3 ? OPENED : CLOSED + 0.05 + 0.06);
        }
    }

    private static void faultVanishesMeanwhile() {
        Check.sentence(22, "The trip times depend on the fault alone, not on whether it vanishes "
            + "meanwhile.");
        FeederProtection x = Edges.chain(2);
        x.setRelay(0, 100, 0, 20);
        x.setRelay(1, 100, FeederProtection.LONG_INVERSE, 20);
        x.setStuck(0, true);
        x.simulate(1, 0, 0.001);
        double late = 0.05 * 20 * 120.0 / (5000.0 / 100 - 1.0);
        Edges.events("trips when the fault is gone", x, 0, 0.05 * 20, 100, 0.05 * 20, 1, late,
            201, late + 0.06);
    }

    /** Opens the breaker of this relay alone. */
    private static void open(FeederProtection x, int relay, int relays) {
        for (int other = 0; other < relays; other++) {
            x.setRelay(other, other == relay ? 100 : RESTING, 0, 1);
        }
        x.simulate(relay, 0, 0.001);
        for (int other = 0; other < relays; other++) {
            x.setRelay(other, 100, 0, 1);
        }
    }

    private static void openBreakerOfThePath() {
        Check.sentence(22, "(1) If a breaker of the path to the line is open, or the fault does "
            + "not exist any more at the time t, the simulation ends.");
        for (int relay = 0; relay < 12; relay++) {
            FeederProtection x = Edges.chain(12);
            open(x, relay, 12);
            Check.same("one is open", x.openBreakers(), 1 << relay);
            Check.same("a fault at the end", x.simulate(11, 50, 1.0), 0);
            Check.same("clearedTime()", x.clearedTime(), 0.0);
            Check.same("still open", x.openBreakers(), 1 << relay);
            Check.same("its own line", x.simulate(relay, 0, 1.0), 0);
        }
    }

    private static void openBreakerBesideThePath() {
        Check.sentence(22, "A simulation may begin with open breakers.");
        FeederProtection x = Edges.chain(3);
        x.addLine(1, 1.0);
        open(x, 3, 4);
        Check.same("beside the path", x.simulate(2, 0, 1.0), 6);
        Check.same("beside the path: openBreakers()", x.openBreakers(), 15);
        FeederProtection y = Edges.chain(3);
        open(y, 2, 3);
        Check.same("behind the fault", y.simulate(1, 100, 1.0), 4);
        Check.same("behind the fault: openBreakers()", y.openBreakers(), 7);
    }

    private static void nobodyTrips() {
        Check.sentence(22, "If there is none, the simulation ends; the fault is not cleared.");
        FeederProtection x = Edges.chain(12);
        for (int relay = 0; relay < 12; relay++) {
            x.setRelay(relay, RESTING, 0, 1);
            x.setShots(relay, 3);
        }
        Check.same("all rest", x.simulate(11, 0, 1000.0), 0);
        Check.same("clearedTime()", x.clearedTime(), Edges.INFINITE);
        Check.same("openBreakers()", x.openBreakers(), 0);
        FeederProtection y = Edges.chain(1);
        y.addLine(0, 1.0);
        y.setRelay(0, RESTING, 0, 1);
        Check.same("a relay beside the path does not trip", y.simulate(0, 0, 1.0), 0);
        FeederProtection z = Edges.chain(2);
        z.setRelay(0, RESTING, 0, 1);
        Check.same("a relay behind the fault does not trip", z.simulate(0, 100, 1.0), 0);
    }

    private static void tripsAtThePickup() {
        Check.sentence(22, "Each relay of the path whose operating time o for the fault current "
            + "is finite would trip at the time t + o.");
        FeederProtection x = Edges.chain(2);
        x.setRelay(0, 5000, 0, 1);
        x.setRelay(1, 4999, 0, 1);
        x.simulate(1, 0, 1.0);
        Edges.events("5000.0 amperes", x, 1, 0.05, 201, OPENED);
        x.closeAll();
        x.setInstantaneous(0, 5000);
        x.setInstantaneous(1, 5001);
        x.simulate(1, 0, 1.0);
        Edges.events("at the instantaneous pickup", x, 0, 0.04, 1, 0.05, 200, 0.04 + 0.06,
            201, OPENED);
    }

    private static void equalTimes() {
        Check.sentence(22, "of equal times the one with the greater number comes first.");
        FeederProtection x = Edges.chain(12);
        Check.same("twelve relays", x.simulate(11, 0, 1.0), 24);
        for (int i = 0; i < 12; i++) {
            Check.same("event(" + i + ")", x.event(i), 11 - i);
            Check.same("event(" + (12 + i) + ")", x.event(12 + i), 211 - i);
        }
        FeederProtection y = Edges.chain(2);
        y.setStuck(1, true);
        y.simulate(1, 0, 1.0);
        Edges.events("the greater one is stuck", y, 1, 0.05, 101, 0.05, 0, 0.05, 200, OPENED);
    }

    /**
     * Relay 0 operates a trifle faster than relay 1, and is taken first. In the second round the
     * trifle is lost in the sum t + o: the trip times are equal, and relay 1 is taken first.
     */
    private static void equalTimesOfALaterRound() {
        Check.sentence(22, "of equal times the one with the greater number comes first.");
        double slow = 0.05 * 2;
        double second = slow + 0.06 + 0.5;
        int found = 0;
        double voltage = 1550.0;
        for (int i = 0; i < 40; i++) {
            voltage = Math.nextUp(voltage);
            double fast = 0.05 * 1 * 13.5 / (voltage / 2.0 / 100 - 1.0);
            if (fast < slow && second + fast == second + slow) {
                found++;
                FeederProtection x = Edges.chain(2);
                x.setSource(voltage, 1.0);
                x.setRelay(0, 100, FeederProtection.VERY_INVERSE, 1);
                x.setRelay(1, 100, 0, 2);
                x.setStuck(0, true);
                x.setShots(1, 1);
                x.simulate(1, 0, 1000.0);
                double late = second + slow;
                Edges.events("voltage " + voltage, x, 0, fast, 100, fast, 1, slow,
                    201, slow + 0.06, 301, second, 1, late, 0, late, 100, late, 201, late + 0.06);
            }
        }
        Check.same("there are such voltages", found > 0, true);
    }

    private static void timesBeforeNumbers() {
        Check.sentence(22, "(3) The relays of (2) are taken in the order of their trip times");
        FeederProtection x = Edges.chain(12);
        for (int relay = 0; relay < 12; relay++) {
            x.setRelay(relay, 100, 0, relay + 1);
            x.setStuck(relay, true);
        }
        x.simulate(11, 0, 1.0);
        for (int relay = 0; relay < 12; relay++) {
            Check.same("taken", x.event(2 * relay), relay);
            Check.same("at", x.eventTime(2 * relay), 0.05 * (relay + 1));
        }
    }

    private static void stuckAndNextRelay() {
        Check.sentence(22, "For a relay whose breaker is stuck, the events TRIP and STUCK are "
            + "recorded, both at its trip time, and the next relay is taken.");
        FeederProtection x = Edges.chain(12);
        for (int relay = 1; relay < 12; relay++) {
            x.setStuck(relay, true);
        }
        x.setRelay(0, 100, 0, 20);
        Check.same("eleven are stuck", x.simulate(11, 0, 1.0), 24);
        for (int relay = 11; relay > 0; relay--) {
            int place = 2 * (11 - relay);
            Check.same("event(" + place + ")", x.event(place), relay);
            Check.same("eventTime(" + place + ")", x.eventTime(place), 0.05);
            Check.same("event(" + (place + 1) + ")", x.event(place + 1), 100 + relay);
            Check.same("eventTime(" + (place + 1) + ")", x.eventTime(place + 1), 0.05);
        }
        Check.same("the next one trips", x.event(22), 0);
        Check.same("the next one opens", x.event(23), 200);
        Check.same("clearedTime()", x.clearedTime(), 0.05 * 20 + 0.06);
    }

    private static void allStuck() {
        Check.sentence(22, "(4) If no breaker opens, the simulation ends; the fault is not "
            + "cleared.");
        for (int lines = 1; lines <= 12; lines += 11) {
            FeederProtection x = Edges.chain(lines);
            for (int relay = 0; relay < lines; relay++) {
                x.setStuck(relay, true);
                x.setShots(relay, 3);
            }
            Check.same("all are stuck", x.simulate(lines - 1, 0, 1000.0), 2 * lines);
            Check.same("clearedTime()", x.clearedTime(), Edges.INFINITE);
            Check.same("openBreakers()", x.openBreakers(), 0);
        }
    }

    private static void firstThatIsNotStuck() {
        Check.sentence(22, "For the first relay whose breaker is not stuck, the event TRIP is "
            + "recorded; its breaker opens at its trip time + 0.06.");
        for (int free = 0; free < 12; free++) {
            FeederProtection x = Edges.chain(12);
            for (int relay = 0; relay < 12; relay++) {
                x.setRelay(relay, 100, 0, 1 + (11 - relay));
                x.setStuck(relay, relay != free);
            }
            double c = 0.05 * (12 - free) + 0.06;
            x.simulate(11, 0, 1.0);
            Check.same("openBreakers()", x.openBreakers(), 1 << free);
            Check.same("clearedTime()", x.clearedTime(), c);
            Check.same("event()", x.event(x.eventCount() - 1), 200 + free);
        }
    }

    /** Relay 1 trips at 0.04, so that c is 0.04 + 0.06, and relay 0 trips at 0.05 * 2. */
    private static void tripAtTheOpening() {
        Check.sentence(22, "Then the remaining relays are taken in the same order as long as "
            + "their trip times are less than c");
        FeederProtection x = Edges.chain(2);
        x.setInstantaneous(1, 1);
        x.setRelay(0, 100, 0, 2);
        x.simulate(1, 0, 1.0);
        Check.same("the very time", 0.04 + 0.06, 0.05 * 2);
        Edges.events("at c", x, 1, 0.04, 201, 0.04 + 0.06);
        Check.same("at c: openBreakers()", x.openBreakers(), 2);
    }

    /** Around 1550.0 volts relay 0 trips at about 0.1, and each next voltage a little earlier. */
    private static void tripAroundTheOpening() {
        Check.sentence(22, "Then the remaining relays are taken in the same order as long as "
            + "their trip times are less than c");
        double c = 0.04 + 0.06;
        boolean before = false;
        boolean behind = false;
        double voltage = 1550.0;
        for (int i = 0; i < 20; i++) {
            voltage = Math.nextDown(voltage);
        }
        for (int i = 0; i < 40; i++) {
            FeederProtection x = Edges.chain(2);
            x.setRelay(0, 100, FeederProtection.VERY_INVERSE, 1);
            x.setInstantaneous(1, 1);
            x.setSource(voltage, 1.0);
            double trip = 0.05 * 1 * 13.5 / (voltage / 2.0 / 100 - 1.0);
            Check.same("voltage " + voltage, x.simulate(1, 0, 1.0), trip < c ? 4 : 2);
            before |= trip < c && trip > c - 1e-14;
            behind |= trip > c && trip < c + 1e-14;
            voltage = Math.nextUp(voltage);
        }
        Check.same("some trip just before c", before, true);
        Check.same("some trip just behind c", behind, true);
    }

    private static void tripBeforeTheFirstOpeningOnly() {
        Check.sentence(22, "Let c be this opening time.");
        FeederProtection x = Edges.chain(3);
        x.setRelay(1, 100, 0, 2);
        x.setRelay(0, 100, 0, 3);
        x.simulate(2, 0, 1.0);
        Edges.events("a second opening is no new c", x, 2, 0.05, 1, 0.05 * 2, 202, OPENED,
            201, 0.05 * 2 + 0.06);
        Check.same("clearedTime()", x.clearedTime(), OPENED);
    }

    private static void stuckBeforeTheOpening() {
        Check.sentence(22, "for each of them TRIP is recorded, and then STUCK if its breaker is "
            + "stuck; otherwise its breaker opens at its trip time + 0.06, too.");
        FeederProtection x = Edges.chain(4);
        x.setRelay(2, 100, 0, 2);
        x.setRelay(1, 100, 0, 2);
        x.setRelay(0, 100, 0, 3);
        x.setStuck(2, true);
        x.setStuck(0, true);
        x.simulate(3, 0, 1.0);
        double late = 0.05 * 2;
        Edges.events("one is stuck, one is not, one is too late", x, 3, 0.05, 2, late, 102, late,
            1, late, 203, OPENED, 201, late + 0.06);
        Check.same("openBreakers()", x.openBreakers(), 10);
    }

    private static void openInTheOrderOfTaking() {
        Check.sentence(22, "Otherwise for each breaker that opens the event OPEN is recorded at "
            + "its opening time, in the order in which the relays were taken.");
        FeederProtection x = Edges.chain(3);
        x.setRelay(2, 100, 0, 2);
        x.setInstantaneous(1, 1);
        x.simulate(2, 0, 1.0);
        Edges.events("the first one taken is neither the least nor the greatest", x,
            1, 0.04, 0, 0.05, 201, 0.04 + 0.06, 200, OPENED);
        x.closeAll();
        x.setRelay(2, 100, 0, 1);
        x.simulate(2, 0, 1.0);
        Edges.events("three open", x, 1, 0.04, 2, 0.05, 0, 0.05, 201, 0.04 + 0.06,
            202, OPENED, 200, OPENED);
    }

    private static void shotsNoneToThree() {
        Check.sentence(22, "at most as often as its relay has reclosing shots, the event CLOSE is "
            + "recorded for it at its opening time + 0.5, it is closed, and the next round begins "
            + "at this time.");
        for (int shots = 0; shots <= 3; shots++) {
            FeederProtection x = Edges.chain(1);
            x.setShots(0, shots);
            Check.same("events", x.simulate(0, 0, 1000000.0), 3 * shots + 2);
            double time = 0.0;
            for (int round = 0; round < shots; round++) {
                Check.same("closed", x.event(3 * round + 2), 300);
                Check.same("opened at", x.eventTime(3 * round + 1), time + 0.05 + 0.06);
                time = time + 0.05 + 0.06 + 0.5;
                Check.same("closed at", x.eventTime(3 * round + 2), time);
                Check.same("trips again at", x.eventTime(3 * round + 3), time + 0.05);
            }
            Check.same("openBreakers()", x.openBreakers(), 1);
            Check.same("clearedTime()", x.clearedTime(), time + 0.05 + 0.06);
        }
    }

    private static void shotsAreUsedUp() {
        Check.sentence(22, "Otherwise the simulation ends.");
        for (int shots = 0; shots <= 3; shots++) {
            FeederProtection x = Edges.chain(1);
            x.setShots(0, shots);
            x.simulate(0, 0, 1000000.0);
            Check.same("it ends with an opening", x.event(x.eventCount() - 1), 200);
            Check.same("openBreakers()", x.openBreakers(), 1);
            Check.same("the fault is cleared then", x.clearedTime(),
                x.eventTime(x.eventCount() - 1));
        }
    }

    private static void shotsInTheWholeSimulation() {
        Check.sentence(22, "(5) If the breaker with the greatest number among those that opened "
            + "in this round has opened, in the whole simulation, at most as often");
        FeederProtection x = Edges.chain(1);
        x.setShots(0, 1);
        for (int time = 0; time < 4; time++) {
            Check.same("each simulation counts anew", x.simulate(0, 0, 1000.0), 5);
            x.closeAll();
        }
        Check.same("a short fault", x.simulate(0, 0, 0.001), 3);
        Check.same("counts anew behind it", x.simulate(0, 0, 1000.0), 5);
    }

    private static void shotsOfTheGreatest() {
        Check.sentence(22, "the breaker with the greatest number among those that opened in this "
            + "round");
        int[][] shots = {{3, 0}, {0, 3}, {0, 1}, {3, 3}, {0, 0}};
        int[] open = {3, 1, 1, 1, 3};
        for (int i = 0; i < shots.length; i++) {
            FeederProtection x = Edges.chain(2);
            x.setInstantaneous(0, 1);
            x.setShots(0, shots[i][0]);
            x.setShots(1, shots[i][1]);
            Check.same("case " + i, x.simulate(1, 0, 1000.0), open[i] == 3 ? 4 : 5);
            Check.same("case " + i + ": taken first", x.event(0), 0);
            Check.same("case " + i + ": openBreakers()", x.openBreakers(), open[i]);
            Check.same("case " + i + ": clearedTime()", x.clearedTime(), 0.04 + 0.06);
        }
    }

    /** Relay 1 trips so near c that the rounding of a later round may let it open too. */
    private static void shotsOfTheGreatestOfALaterRound() {
        Check.sentence(22, "the breaker with the greatest number among those that opened in this "
            + "round");
        boolean later = false;
        double voltage = 200.0 * (1.0 + 0.05 * 1 * 13.5 / (0.05 * 2 + 0.06));
        for (int i = 0; i < 50; i++) {
            voltage = Math.nextDown(voltage);
        }
        for (int i = 0; i < 100; i++) {
            voltage = Math.nextUp(voltage);
            int round = opensWithRelayOne(voltage, 0);
            Check.same("the shots do not matter for that", opensWithRelayOne(voltage, 1), round);
            later |= round > 0 && round < 4;
        }
        Check.same("relay 1 opened in a later round", later, true);
    }

    /** The round in which relay 1 opens beside relay 0, 4 if there is none. */
    private static int opensWithRelayOne(double voltage, int shots) {
        FeederProtection x = Edges.chain(2);
        x.setSource(voltage, 1.0);
        x.setRelay(0, 100, 0, 2);
        x.setRelay(1, 100, FeederProtection.VERY_INVERSE, 1);
        x.setShots(0, 3);
        x.setShots(1, shots);
        double nearC = 0.05 * 1 * 13.5 / (voltage / 2.0 / 100 - 1.0);
        int round = 0;
        double time = 0.0;
        while (round < 4 && time + nearC >= time + 0.05 * 2 + 0.06) {
            time = time + 0.05 * 2 + 0.06 + 0.5;
            round++;
        }
        boolean both = round < 4;
        Check.same("in round " + round + ": events", x.simulate(1, 0, 1000.0),
            both ? 3 * round + 4 + shots : 11);
        Check.same("in round " + round + ": the last event", x.event(x.eventCount() - 1),
            !both ? 200 : shots == 1 ? 301 : 201);
        Check.same("in round " + round + ": openBreakers()", x.openBreakers(),
            both && shots == 0 ? 3 : 1);
        return round;
    }

    private static void shotsOfTheGreatestOfTwelve() {
        Check.sentence(22, "the event CLOSE is recorded for it");
        FeederProtection x = Edges.chain(12);
        x.setShots(11, 1);
        Check.same("twelve open, one closes", x.simulate(11, 0, 1000.0), 25);
        Check.same("event(24)", x.event(24), 311);
        Check.same("openBreakers()", x.openBreakers(), 2047);
        FeederProtection y = Edges.chain(12);
        y.setStuck(11, true);
        y.setShots(11, 3);
        y.setShots(10, 1);
        Check.same("the greatest of those that opened", y.simulate(11, 0, 1000.0), 25);
        Check.same("event(24) behind a stuck one", y.event(24), 310);
        Check.same("openBreakers() behind a stuck one", y.openBreakers(), 1023);
    }

    private static void closingIsBehindItsOwnOpening() {
        Check.sentence(22, "the event CLOSE is recorded for it at its opening time + 0.5");
        FeederProtection x = Edges.chain(2);
        x.setRelay(1, 100, 0, 2);
        x.setShots(1, 1);
        x.simulate(1, 0, 1000.0);
        double late = 0.05 * 2 + 0.06;
        Edges.events("not behind c", x, 0, 0.05, 1, 0.05 * 2, 200, OPENED, 201, late,
            301, late + 0.5);
    }

    /** Relay 0 has three shots, and others trip with stuck breakers in each of its rounds. */
    private static FeederProtection stuckBehindZero(int stuck, int shots) {
        FeederProtection x = Edges.chain(12);
        for (int relay = 1; relay < 12; relay++) {
            x.setStuck(relay, true);
            if (relay > stuck) {
                x.setRelay(relay, RESTING, 0, 1);
            }
        }
        x.setShots(0, shots);
        return x;
    }

    private static void fiftyNineEvents() {
        Check.sentence(22, "At most 60 events are recorded");
        FeederProtection x = stuckBehindZero(6, 3);
        Check.same("4 rounds of 12 + 2, and 3 closings", x.simulate(11, 0, 1000.0), 59);
        Check.same("eventCount()", x.eventCount(), 59);
        Check.same("the last one", x.event(58), 200);
        Check.same("its time", x.eventTime(58), x.clearedTime());
        FeederProtection y = stuckBehindZero(6, 3);
        y.simulate(11, 0, 1000.0);
        Check.same("none behind it", Check.thrownBy(() -> y.event(59)), Edges.INDEX.getName());
    }

    /**
     * Rounds that are all alike have never just 60 events. But relay 11 trips so near c here that
     * the rounding of the times decides, round by round, whether it is taken.
     */
    private static void sixtyEventsOfSixtyAndOfSixtyOne() {
        Check.sentence(22, "At most 60 events are recorded; later ones are not recorded, but have "
            + "all other effects.");
        boolean sixty = false;
        boolean sixtyOne = false;
        double voltage = 1200.0 * (1.0 + 0.05 * 1 * 13.5 / (0.05 * 2 + 0.06));
        for (int i = 0; i < 50; i++) {
            voltage = Math.nextDown(voltage);
        }
        for (int i = 0; i < 100; i++) {
            voltage = Math.nextUp(voltage);
            sixty |= dueAroundSixty(voltage, 8, 2) == 60;
            sixtyOne |= dueAroundSixty(voltage, 6, 3) == 61;
        }
        Check.same("just 60 were due", sixty, true);
        Check.same("just 61 were due", sixtyOne, true);
    }

    /** How many events are due, recorded or not. */
    private static int dueAroundSixty(double voltage, int stuck, int shots) {
        FeederProtection x = stuckBehindZero(stuck, shots);
        x.setSource(voltage, 1.0);
        x.setRelay(0, 100, 0, 2);
        x.setRelay(11, 100, FeederProtection.VERY_INVERSE, 1);
        double nearC = 0.05 * 1 * 13.5 / (voltage / 12.0 / 100 - 1.0);
        int due = shots;
        double time = 0.0;
        double c = 0.0;
        for (int round = 0; round <= shots; round++) {
            c = time + 0.05 * 2 + 0.06;
            due += 2 + 2 * stuck + (time + nearC < c ? 2 : 0);
            time = c + 0.5;
        }
        int kept = Math.min(due, 60);
        Check.same("of " + due, x.simulate(11, 0, 1000.0), kept);
        Check.same("of " + due + ": the last one kept is the last opening",
            x.event(kept - 1) == 200, due <= 60);
        Check.same("of " + due + ": clearedTime()", x.clearedTime(), c);
        Check.same("of " + due + ": openBreakers()", x.openBreakers(), 1);
        return due;
    }

    private static void sixtyEventsOfSixtyTwo() {
        Check.sentence(22, "At most 60 events are recorded");
        FeederProtection x = stuckBehindZero(9, 2);
        Check.same("3 rounds of 18 + 2, and 2 closings", x.simulate(11, 0, 1000.0), 60);
        Check.same("eventCount()", x.eventCount(), 60);
        Check.same("the last one kept", x.event(59), 101);
        double third = CLOSED + 0.05 + 0.06 + 0.5;
        Check.same("its time", x.eventTime(59), third + 0.05);
        Check.same("the opening beyond", x.openBreakers(), 1);
        Check.same("the clearing beyond", x.clearedTime(), third + 0.05 + 0.06);
    }

    private static void sixtyEventsAndTheRest() {
        Check.sentence(22, "later ones are not recorded, but have all other effects.");
        double third = CLOSED + 0.05 + 0.06 + 0.5;
        double fourth = third + 0.05 + 0.06 + 0.5;
        double[] durations = {third, Math.nextUp(third), fourth, Math.nextUp(fourth)};
        int[] counts = {50, 60, 60, 60};
        int[] open = {0, 0, 0, 1};
        double[] cleared = {CLOSED + 0.05 + 0.06, third + 0.05 + 0.06, third + 0.05 + 0.06,
            fourth + 0.05 + 0.06};
        for (int i = 0; i < 4; i++) {
            FeederProtection x = stuckBehindZero(11, 3);
            Check.same("case " + i, x.simulate(11, 0, durations[i]), counts[i]);
            Check.same("case " + i + ": closings and openings", x.openBreakers(), open[i]);
            Check.same("case " + i + ": clearings", x.clearedTime(), cleared[i]);
        }
        FeederProtection x = stuckBehindZero(11, 3);
        x.simulate(11, 0, 1000.0);
        Check.same("event(49) closes", x.event(49), 300);
        Check.same("event(59)", x.event(59), 107);
        Check.same("eventTime(59)", x.eventTime(59), third + 0.05);
    }

    private static void eventsRemovedFirst() {
        Check.sentence(22, "The events of the previous simulation are removed first.");
        FeederProtection x = stuckBehindZero(11, 3);
        Check.same("full", x.simulate(11, 0, 1000.0), 60);
        Check.same("the path is open", x.simulate(11, 0, 1000.0), 0);
        Check.same("none is left", x.eventCount(), 0);
        x.closeAll();
        Check.same("full again", x.simulate(11, 0, 1000.0), 60);
        x.closeAll();
        x.simulate(0, 0, 0.001);
        Edges.events("a few", x, 0, 0.05, 200, OPENED, 300, CLOSED);
    }

    private static void openUntilCloseAll() {
        Check.sentence(22, "Breakers that are open at the end of a simulation stay open until "
            + "closeAll().");
        FeederProtection x = Edges.star(12);
        x.simulate(11, 0, 1.0);
        x.simulate(0, 0, 1.0);
        x.simulate(0, 0, 1.0);
        x.setStuck(0, true);
        x.setStuck(0, false);
        x.setShots(11, 3);
        x.setRelay(11, RESTING, 0, 1);
        x.autoPickup(100);
        x.autoGrade();
        Check.same("openBreakers()", x.openBreakers(), 1 + 2048);
        Check.same("closeAll()", x.closeAll(), 2);
        Check.same("openBreakers() then", x.openBreakers(), 0);
    }

    private static void returnsTheEvents() {
        Check.sentence(22, "Returns the number of events that are recorded.");
        FeederProtection x = Edges.star(2);
        x.setRelay(0, RESTING, 0, 1);
        Check.same("none", x.simulate(0, 0, 1.0), 0);
        Check.same("two", x.simulate(1, 0, 1.0), 2);
        Check.same("none again", x.simulate(1, 0, 1.0), 0);
        Check.same("sixty", stuckBehindZero(11, 3).simulate(11, 0, 1000.0), 60);
    }
}
