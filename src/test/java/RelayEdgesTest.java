/** The sentences of promises 7 to 15 that name an edge, each in a test of its own. */
public final class RelayEdgesTest {
    private static final double[] FACTORS = {1.0, 13.5, 80.0, 120.0};

    public static void main(String[] args) {
        setRelayOfExisting();
        setRelayPickup();
        setRelayCurve();
        setRelayCurveNames();
        setRelaySteps();
        setRelayReturnsPrevious();
        setRelayRefusesWhole();
        instantaneousOfExisting();
        instantaneousAmperes();
        instantaneousReturnsPrevious();
        instantaneousRefusesWhole();
        shotsOfExisting();
        shotsNumber();
        shotsReturnPrevious();
        shotsRefuseWhole();
        stuckOfExisting();
        stuckOfNoSuch();
        stuckFromNowOn();
        stuckReturnsBefore();
        pickupOfExisting();
        pickupOfNoSuch();
        pickupLeastAndGreatest();
        stepsOfExisting();
        stepsOfNoSuch();
        stepsOneToTwenty();
        upstreamOfExisting();
        upstreamOfNoSuch();
        upstreamOfBusZero();
        upstreamOfLongChain();
        timeOfExisting();
        timeCurrent();
        timePossiblyInfinite();
        timeCurrentNotANumber();
        timeAtTheInstantaneous();
        timeWithoutInstantaneous();
        timeAtThePickup();
        timeOfTheSteps();
        timeOfTheCurves();
        timeFromLeftToRight();
        timeRefusesWhole();
        sensitivityOfExisting();
        sensitivityOfNoSuch();
        sensitivityFromLeftToRight();
        Check.finish("RelayEdgesTest");
    }

    private static void setRelayOfExisting() {
        Check.sentence(7, "`relay`: number of an existing relay");
        Edges.existing("relay", (x, relay) -> x.setRelay(relay, 300, 1, 2));
        Edges.noSuch("relay", (x, relay) -> x.setRelay(relay, 300, 1, 2));
        FeederProtection x = Edges.star(12);
        for (int relay = 0; relay < 12; relay++) {
            x.setRelay(relay, 500 + relay, 0, 1 + relay);
        }
        for (int relay = 0; relay < 12; relay++) {
            Check.same("pickup(" + relay + ")", x.pickup(relay), 500 + relay);
            Check.same("steps(" + relay + ")", x.steps(relay), 1 + relay);
        }
    }

    private static void setRelayPickup() {
        Check.sentence(7, "`pickup`: 1 to 20000");
        Edges.ints("pickup", 1, 20000, Edges::busy, (x, v) -> x.setRelay(3, v, 1, 2));
        FeederProtection x = Edges.chain(1);
        x.setRelay(0, 1, 0, 1);
        Check.same("1 ampere rests", x.operatingTime(0, 1.0), Edges.INFINITE);
        Check.same("1 ampere operates", x.operatingTime(0, Math.nextUp(1.0)), 0.05);
        x.setRelay(0, 20000, 0, 1);
        Check.same("20000 amperes rest", x.operatingTime(0, 20000.0), Edges.INFINITE);
        Check.same("20000 amperes operate", x.operatingTime(0, Math.nextUp(20000.0)), 0.05);
    }

    private static void setRelayCurve() {
        Check.sentence(7, "`curve`: DEFINITE, VERY_INVERSE, EXTREMELY_INVERSE or LONG_INVERSE");
        Edges.ints("curve", 0, 3, Edges::busy, (x, v) -> x.setRelay(3, 100, v, 2));
    }

    private static void setRelayCurveNames() {
        Check.sentence(7, "public static final int DEFINITE = 0, VERY_INVERSE = 1, "
            + "EXTREMELY_INVERSE = 2, LONG_INVERSE = 3;");
        double t = 0.05 * 2;
        FeederProtection x = Edges.chain(1);
        x.setRelay(0, 100, FeederProtection.DEFINITE, 2);
        Check.same("DEFINITE", x.operatingTime(0, 300.0), t);
        x.setRelay(0, 100, FeederProtection.VERY_INVERSE, 2);
        Check.same("VERY_INVERSE", x.operatingTime(0, 300.0), t * 13.5 / 2.0);
        x.setRelay(0, 100, FeederProtection.EXTREMELY_INVERSE, 2);
        Check.same("EXTREMELY_INVERSE", x.operatingTime(0, 300.0), t * 80.0 / 8.0);
        x.setRelay(0, 100, FeederProtection.LONG_INVERSE, 2);
        Check.same("LONG_INVERSE", x.operatingTime(0, 300.0), t * 120.0 / 2.0);
    }

    private static void setRelaySteps() {
        Check.sentence(7, "`steps`: 1 to 20");
        Edges.ints("steps", 1, 20, Edges::busy, (x, v) -> x.setRelay(3, 100, 1, v));
    }

    private static void setRelayReturnsPrevious() {
        Check.sentence(7, "Returns the previous pickup current.");
        FeederProtection x = Edges.chain(2);
        Check.same("the first", x.setRelay(1, 20000, 0, 1), 100);
        Check.same("the greatest", x.setRelay(1, 1, 0, 1), 20000);
        Check.same("the least", x.setRelay(1, 1, 0, 1), 1);
        Check.same("the same again", x.setRelay(1, 2, 0, 1), 1);
        Check.same("of the other relay", x.setRelay(0, 3, 0, 1), 100);
        x.autoPickup(100);
        Check.same("the automatic one", x.setRelay(1, 9, 0, 1), 1);
    }

    private static void setRelayRefusesWhole() {
        Check.sentence(7, "Throws `IllegalArgumentException` if an argument is out of range");
        int[][] wrong = {{4, 300, 1, 2}, {0, 0, 1, 2}, {0, 20001, 1, 2}, {0, 300, -1, 2},
            {0, 300, 4, 2}, {0, 300, 1, 0}, {0, 300, 1, 21}, {-1, 0, -1, 0}, {4, 20001, 4, 21}};
        for (int[] a : wrong) {
            Edges.refused(Edges.ILLEGAL, "setRelay(" + a[0] + ", " + a[1] + ", " + a[2] + ", "
                + a[3] + ")", Edges::busy, x -> x.setRelay(a[0], a[1], a[2], a[3]));
        }
    }

    private static void instantaneousOfExisting() {
        Check.sentence(8, "`relay`: number of an existing relay");
        Edges.existing("relay", (x, relay) -> x.setInstantaneous(relay, 5));
        Edges.existing("relay", (x, relay) -> x.setInstantaneous(relay, 0));
        Edges.noSuch("relay", (x, relay) -> x.setInstantaneous(relay, 0));
    }

    private static void instantaneousAmperes() {
        Check.sentence(8, "`amperes`: 1 to 100000, or 0 for no instantaneous element");
        Edges.ints("amperes", 0, 100000, Edges::busy, (x, v) -> x.setInstantaneous(3, v));
        FeederProtection x = Edges.chain(1);
        x.setInstantaneous(0, 1);
        Check.same("1: at 1.0", x.operatingTime(0, 1.0), 0.04);
        x.setInstantaneous(0, 0);
        Check.same("0: at 0.0", x.operatingTime(0, 0.0), Edges.INFINITE);
        Check.same("0: at 1.0", x.operatingTime(0, 1.0), Edges.INFINITE);
        x.setInstantaneous(0, 100000);
        Check.same("100000: at 100000.0", x.operatingTime(0, 100000.0), 0.04);
        Check.same("100000: at 99999.0", x.operatingTime(0, 99999.0), 0.05);
    }

    private static void instantaneousReturnsPrevious() {
        Check.sentence(8, "Returns the previous instantaneous pickup, 0 if there was no "
            + "instantaneous element.");
        FeederProtection x = Edges.chain(2);
        Check.same("at first", x.setInstantaneous(1, 0), 0);
        Check.same("none", x.setInstantaneous(1, 100000), 0);
        Check.same("the greatest", x.setInstantaneous(1, 1), 100000);
        Check.same("the least", x.setInstantaneous(1, 0), 1);
        Check.same("none again", x.setInstantaneous(1, 8), 0);
        Check.same("of the other relay", x.setInstantaneous(0, 9), 0);
    }

    private static void instantaneousRefusesWhole() {
        Check.sentence(8, "Throws `IllegalArgumentException` if an argument is out of range");
        Edges.refused(Edges.ILLEGAL, "wrong relay, none", Edges::busy,
            x -> x.setInstantaneous(4, 0));
        Edges.refused(Edges.ILLEGAL, "good relay, -1", Edges::busy,
            x -> x.setInstantaneous(0, -1));
        Edges.refused(Edges.ILLEGAL, "both wrong", Edges::busy,
            x -> x.setInstantaneous(-1, 100001));
    }

    private static void shotsOfExisting() {
        Check.sentence(9, "`relay`: number of an existing relay");
        Edges.existing("relay", (x, relay) -> x.setShots(relay, 1));
        Edges.noSuch("relay", (x, relay) -> x.setShots(relay, 1));
    }

    private static void shotsNumber() {
        Check.sentence(9, "`shots`: 0 to 3");
        Edges.ints("shots", 0, 3, Edges::busy, (x, v) -> x.setShots(2, v));
    }

    private static void shotsReturnPrevious() {
        Check.sentence(9, "Returns the previous number.");
        FeederProtection x = Edges.chain(2);
        Check.same("at first", x.setShots(1, 3), 0);
        Check.same("the greatest", x.setShots(1, 0), 3);
        Check.same("the least", x.setShots(1, 2), 0);
        x.simulate(1, 0, 9000.0);
        Check.same("a simulation uses none up", x.setShots(1, 2), 2);
        Check.same("of the other relay", x.setShots(0, 1), 0);
    }

    private static void shotsRefuseWhole() {
        Check.sentence(9, "Throws `IllegalArgumentException` if an argument is out of range");
        Edges.refused(Edges.ILLEGAL, "wrong relay", Edges::busy, x -> x.setShots(4, 3));
        Edges.refused(Edges.ILLEGAL, "wrong number", Edges::busy, x -> x.setShots(3, 4));
        Edges.refused(Edges.ILLEGAL, "both wrong", Edges::busy, x -> x.setShots(-1, -1));
    }

    private static void stuckOfExisting() {
        Check.sentence(10, "`relay`: number of an existing relay");
        Edges.existing("relay", (x, relay) -> x.setStuck(relay, true));
        Edges.existing("relay", (x, relay) -> x.setStuck(relay, false));
    }

    private static void stuckOfNoSuch() {
        Check.sentence(10, "Throws `IllegalArgumentException` if there is no such relay");
        Edges.noSuch("relay", (x, relay) -> x.setStuck(relay, true));
    }

    private static void stuckFromNowOn() {
        Check.sentence(10, "`stuck`: true if the breaker is stuck from now on");
        FeederProtection x = Edges.chain(1);
        x.simulate(0, 0, 1.0);
        x.setStuck(0, true);
        Check.same("an open breaker stays open", x.openBreakers(), 1);
        Check.same("and can be closed", x.closeAll(), 1);
        x.simulate(0, 0, 1.0);
        Check.same("from now on it does not open", x.openBreakers(), 0);
        x.setStuck(0, false);
        x.simulate(0, 0, 1.0);
        Check.same("not stuck any more", x.openBreakers(), 1);
    }

    private static void stuckReturnsBefore() {
        Check.sentence(10, "Returns true if it was stuck before.");
        FeederProtection x = Edges.chain(12);
        for (int relay = 0; relay < 12; relay += 11) {
            Check.same("at first", x.setStuck(relay, true), false);
            Check.same("stuck, again stuck", x.setStuck(relay, true), true);
            Check.same("stuck, then free", x.setStuck(relay, false), true);
            Check.same("free, again free", x.setStuck(relay, false), false);
            x.setStuck(relay, true);
        }
        for (int relay = 1; relay < 11; relay++) {
            Check.same("those between are free", x.setStuck(relay, false), false);
        }
    }

    private static void pickupOfExisting() {
        Check.sentence(11, "`relay`: number of an existing relay");
        Edges.existing("relay", (x, relay) -> x.pickup(relay));
    }

    private static void pickupOfNoSuch() {
        Check.sentence(11, "Throws `IllegalArgumentException` if there is no such relay");
        Edges.noSuch("relay", (x, relay) -> x.pickup(relay));
    }

    private static void pickupLeastAndGreatest() {
        Check.sentence(11, "Returns the pickup current in amperes.");
        FeederProtection x = Edges.chain(2);
        x.setRelay(0, 1, 0, 1);
        x.setRelay(1, 20000, 0, 1);
        Check.same("the least", x.pickup(0), 1);
        Check.same("the greatest", x.pickup(1), 20000);
    }

    private static void stepsOfExisting() {
        Check.sentence(12, "`relay`: number of an existing relay");
        Edges.existing("relay", (x, relay) -> x.steps(relay));
    }

    private static void stepsOfNoSuch() {
        Check.sentence(12, "Throws `IllegalArgumentException` if there is no such relay");
        Edges.noSuch("relay", (x, relay) -> x.steps(relay));
    }

    private static void stepsOneToTwenty() {
        Check.sentence(12, "Returns 1 to 20.");
        FeederProtection x = Edges.chain(2);
        x.setRelay(0, 100, 0, 20);
        Check.same("the greatest", x.steps(0), 20);
        Check.same("the least", x.steps(1), 1);
        x.setRelay(0, 100, 0, 1);
        x.setRelay(1, 20000, 0, 20);
        Check.same("no such number of steps", x.autoGrade(), 1);
        Check.same("not more than the greatest", x.steps(0), 20);
        Check.same("not less than the least", x.steps(1), 1);
    }

    private static void upstreamOfExisting() {
        Check.sentence(13, "`relay`: number of an existing relay");
        Edges.existing("relay", (x, relay) -> x.upstream(relay));
    }

    private static void upstreamOfNoSuch() {
        Check.sentence(13, "Throws `IllegalArgumentException` if there is no such relay");
        Edges.noSuch("relay", (x, relay) -> x.upstream(relay));
    }

    private static void upstreamOfBusZero() {
        Check.sentence(13, "Returns the number of the upstream relay; NONE if there is none.");
        Check.same("NONE", FeederProtection.NONE, -1);
        FeederProtection x = Edges.star(12);
        for (int relay = 0; relay < 12; relay++) {
            Check.same("upstream(" + relay + ")", x.upstream(relay), FeederProtection.NONE);
        }
    }

    private static void upstreamOfLongChain() {
        Check.sentence(13, "The relay upstream of a relay is the relay of the line that ends at "
            + "the bus where its own line begins; a relay at bus 0 has none.");
        FeederProtection x = Edges.chain(12);
        for (int relay = 0; relay < 12; relay++) {
            Check.same("upstream(" + relay + ")", x.upstream(relay), relay - 1);
        }
        FeederProtection y = Edges.star(11);
        y.addLine(1, 1.0);
        Check.same("the first relay", y.upstream(11), 0);
    }

    private static void timeOfExisting() {
        Check.sentence(14, "`relay`: number of an existing relay");
        Edges.existing("relay", (x, relay) -> x.operatingTime(relay, 0.0));
        Edges.existing("relay", (x, relay) -> x.operatingTime(relay, 300.0));
        Edges.noSuch("relay", (x, relay) -> x.operatingTime(relay, 300.0));
    }

    private static void timeCurrent() {
        Check.sentence(14, "`current`: 0.0 to 1000000000.0 amperes");
        Edges.doubles("current", 0.0, 1000000000.0, Edges::busy,
            (x, current) -> x.operatingTime(3, current));
        FeederProtection x = Edges.chain(1);
        for (int curve = 0; curve < 4; curve++) {
            x.setRelay(0, 1, curve, 20);
            Check.same("0.0 amperes", x.operatingTime(0, 0.0), Edges.INFINITE);
            Check.same("minus zero is zero", x.operatingTime(0, -0.0), Edges.INFINITE);
            Check.same("the least", x.operatingTime(0, Double.MIN_VALUE), Edges.INFINITE);
            double m = 1000000000.0;
            double divisor = curve == 0 ? 1.0 : curve == 2 ? m * m - 1.0 : m - 1.0;
            Check.same("1000000000.0 amperes", x.operatingTime(0, m),
                0.05 * 20 * FACTORS[curve] / divisor);
        }
        Edges.refused(Edges.ILLEGAL, "the least below", Edges::busy,
            y -> y.operatingTime(0, -Double.MIN_VALUE));
    }

    /** The longest time that there can be, and none at all. */
    private static void timePossiblyInfinite() {
        Check.sentence(14, "Returns the operating time in seconds, possibly positive infinity.");
        FeederProtection x = Edges.chain(1);
        x.setRelay(0, 16384, FeederProtection.LONG_INVERSE, 20);
        double current = Math.nextUp(16384.0);
        Check.same("the longest time", x.operatingTime(0, current),
            0.05 * 20 * 120.0 / (current / 16384 - 1.0));
        Check.same("it is finite", x.operatingTime(0, current) < Edges.INFINITE, true);
        Check.same("positive infinity", x.operatingTime(0, 16384.0), Edges.INFINITE);
    }

    private static void timeCurrentNotANumber() {
        Check.sentence(14, "A double argument that is not a number is out of range.");
        Edges.notANumber("current", Edges::busy, (x, v) -> x.operatingTime(0, v));
        Edges.notANumber("current", () -> Edges.chain(1), (x, v) -> x.operatingTime(0, v));
    }

    private static void timeAtTheInstantaneous() {
        Check.sentence(14, "If the relay has an instantaneous element and I is at least the "
            + "instantaneous pickup, it is 0.04.");
        for (int amperes : new int[] {1, 2, 99, 100, 101, 777, 99999, 100000}) {
            for (int curve = 0; curve < 4; curve++) {
                FeederProtection x = Edges.chain(1);
                x.setRelay(0, 100, curve, 20);
                double below = x.operatingTime(0, Math.nextDown((double) amperes));
                x.setInstantaneous(0, amperes);
                Check.same("at " + amperes, x.operatingTime(0, amperes), 0.04);
                Check.same("above " + amperes,
                    x.operatingTime(0, Math.nextUp((double) amperes)), 0.04);
                Check.same("far above", x.operatingTime(0, 1000000000.0), 0.04);
                Check.same("below " + amperes,
                    x.operatingTime(0, Math.nextDown((double) amperes)), below);
                Check.same("at 0.0", x.operatingTime(0, 0.0), Edges.INFINITE);
            }
        }
    }

    private static void timeWithoutInstantaneous() {
        Check.sentence(14, "an instantaneous pickup in amperes or 0 if it has no instantaneous "
            + "element");
        FeederProtection x = Edges.chain(1);
        Check.same("none at first, no current", x.operatingTime(0, 0.0), Edges.INFINITE);
        Check.same("none at first, much current", x.operatingTime(0, 1000000000.0), 0.05);
        x.setInstantaneous(0, 1);
        x.setInstantaneous(0, 0);
        Check.same("taken away, no current", x.operatingTime(0, 0.0), Edges.INFINITE);
        Check.same("taken away, much current", x.operatingTime(0, 1000000000.0), 0.05);
    }

    private static void timeAtThePickup() {
        Check.sentence(14, "If M is not greater than 1.0, the relay does not operate, and the "
            + "time is positive infinity.");
        FeederProtection x = Edges.chain(1);
        for (int pickup : new int[] {1, 3, 100, 16383, 16384, 20000}) {
            for (int curve = 0; curve < 4; curve++) {
                x.setRelay(0, pickup, curve, 20);
                double above = Math.nextUp((double) pickup);
                double m = above / pickup;
                double divisor = curve == 0 ? 1.0 : curve == 2 ? m * m - 1.0 : m - 1.0;
                Check.same("at " + pickup, x.operatingTime(0, pickup), Edges.INFINITE);
                Check.same("below " + pickup, x.operatingTime(0, Math.nextDown(1.0 * pickup)),
                    Edges.INFINITE);
                Check.same("above " + pickup, x.operatingTime(0, above),
                    0.05 * 20 * FACTORS[curve] / divisor);
            }
        }
    }

    private static void timeOfTheSteps() {
        Check.sentence(14, "Otherwise let T = 0.05 * (number of time steps).");
        FeederProtection x = Edges.chain(1);
        Check.same("0.05 * 3 is not 3 / 20.0", 0.05 * 3 == 3 / 20.0, false);
        for (int steps = 1; steps <= 20; steps++) {
            x.setRelay(0, 100, 0, steps);
            Check.same("steps " + steps, x.operatingTime(0, 101.0), 0.05 * steps);
        }
    }

    private static void timeOfTheCurves() {
        Check.sentence(14, "The time is, for the curve DEFINITE (0): T; VERY_INVERSE (1): "
            + "T * 13.5 / (M - 1.0); EXTREMELY_INVERSE (2): T * 80.0 / (M * M - 1.0); "
            + "LONG_INVERSE (3): T * 120.0 / (M - 1.0).");
        FeederProtection x = Edges.chain(1);
        for (int steps = 1; steps <= 20; steps += 19) {
            for (int pickup = 1; pickup <= 20000; pickup += 19999) {
                for (double current : new double[] {20001.0, 54321.9, 1000000000.0}) {
                    double m = current / pickup;
                    double t = 0.05 * steps;
                    double[] due = {t, t * 13.5 / (m - 1.0), t * 80.0 / (m * m - 1.0),
                        t * 120.0 / (m - 1.0)};
                    for (int curve = 0; curve < 4; curve++) {
                        x.setRelay(0, pickup, curve, steps);
                        Check.same("curve " + curve, x.operatingTime(0, current), due[curve]);
                    }
                }
            }
        }
    }

    private static void timeFromLeftToRight() {
        Check.sentence(14, "Products and quotients are evaluated from left to right.");
        FeederProtection x = Edges.chain(1);
        for (int curve = 1; curve < 4; curve++) {
            x.setRelay(0, 100, curve, 3);
            boolean apart = false;
            for (int current = 101; current <= 150; current++) {
                double m = current / 100.0;
                double divisor = curve == 2 ? m * m - 1.0 : m - 1.0;
                double due = 0.05 * 3 * FACTORS[curve] / divisor;
                apart |= due != 0.05 * 3 * (FACTORS[curve] / divisor);
                Check.same("curve " + curve, x.operatingTime(0, current), due);
            }
            Check.same("another order is another time", apart, true);
        }
    }

    private static void timeRefusesWhole() {
        Check.sentence(14, "Throws `IllegalArgumentException` if an argument is out of range");
        Edges.refused(Edges.ILLEGAL, "wrong relay", Edges::busy, x -> x.operatingTime(4, 1.0));
        Edges.refused(Edges.ILLEGAL, "wrong current", Edges::busy, x -> x.operatingTime(3, -1.0));
        Edges.refused(Edges.ILLEGAL, "both wrong", Edges::busy,
            x -> x.operatingTime(-1, Double.NaN));
    }

    private static void sensitivityOfExisting() {
        Check.sentence(15, "`relay`: number of an existing relay");
        Edges.existing("relay", (x, relay) -> x.sensitivity(relay));
    }

    private static void sensitivityOfNoSuch() {
        Check.sentence(15, "Throws `IllegalArgumentException` if there is no such relay");
        Edges.noSuch("relay", (x, relay) -> x.sensitivity(relay));
    }

    private static void sensitivityFromLeftToRight() {
        Check.sentence(15, "Returns the sensitivity of a relay: the fault current at 100 percent "
            + "of its line, times 0.866, divided by the pickup current.");
        FeederProtection x = Edges.chain(2);
        boolean apart = false;
        for (int pickup : new int[] {1, 2, 3, 7, 100, 1999, 19999, 20000}) {
            x.setRelay(1, pickup, 0, 1);
            double due = 10000.0 / 3.0 * 0.866 / pickup;
            apart |= due != 10000.0 / 3.0 * (0.866 / pickup);
            Check.same("pickup " + pickup, x.sensitivity(1), due);
        }
        Check.same("another order is another sensitivity", apart, true);
    }
}
