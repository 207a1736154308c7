/** The sentences of promises 1 to 6 that name an edge, each in a test of its own. */
public final class NetworkEdgesTest {
    public static void main(String[] args) {
        newObjectHasNothing();
        newObjectHasItsSource();
        newObjectHasItsMargin();
        newLineHasTheFirstValues();
        newBreakerIsClosedAndFree();
        lineThatComesAgainIsNew();
        sourceVoltage();
        sourceImpedance();
        sourceReturnsPrevious();
        sourceRefusesWhole();
        sourceNotANumber();
        lineFromExistingBus();
        lineMakesItsBus();
        lineImpedance();
        lineImpedanceNotANumber();
        lineRefusesWhole();
        lineReturnsItsNumber();
        lineTwelveIsTheLast();
        lineThirteenIsRefused();
        lineThirteenAndOutOfRange();
        loadOfExistingBus();
        loadOfBusZero();
        loadAmperes();
        loadReturnsPrevious();
        loadRefusesWhole();
        loadCurrentOfExistingLine();
        loadCurrentOfNoSuchLine();
        loadCurrentOfTheEnds();
        loadCurrentOfBranches();
        faultOfExistingLine();
        faultPercent();
        faultAtBothEnds();
        faultPathIsInOrder();
        faultPathOfOneAndOfTwelve();
        faultCurrentGreatestAndLeast();
        faultRefusesBoth();
        Check.finish("NetworkEdgesTest");
    }

    private static void newObjectHasNothing() {
        Check.sentence(1, "Creates a network without lines, with the values that are told as "
            + "\"at first\", no events and an empty undo stack.");
        FeederProtection x = new FeederProtection();
        Check.same("eventCount()", x.eventCount(), 0);
        Check.same("clearedTime()", x.clearedTime(), 0.0);
        Check.same("violationCount()", x.violationCount(), 0);
        Check.same("openBreakers()", x.openBreakers(), 0);
        Check.same("lostLoad()", x.lostLoad(), 0);
        Edges.refused(Edges.ILLEGAL, "pickup(0)", FeederProtection::new, y -> y.pickup(0));
        Edges.refused(Edges.ILLEGAL, "addLine(1, 1.0)", FeederProtection::new,
            y -> y.addLine(1, 1.0));
        Edges.refused(Edges.INDEX, "event(0)", FeederProtection::new, y -> y.event(0));
        Edges.refused(Edges.INDEX, "violation(0)", FeederProtection::new, y -> y.violation(0));
        Edges.refused(Edges.STATE, "undo()", FeederProtection::new, y -> y.undo());
        Check.same("autoPickup(100)", x.autoPickup(100), 0);
        Check.same("autoGrade()", x.autoGrade(), 0);
        Check.same("closeAll()", x.closeAll(), 0);
        Check.same("addLine(0, 1.0)", x.addLine(0, 1.0), 0);
    }

    private static void newObjectHasItsSource() {
        Check.sentence(1, "Bus 0 is fed by a source with a voltage (10000.0 volts at first) "
            + "and an impedance (1.0 ohms at first).");
        FeederProtection x = Edges.chain(1);
        Check.same("faultCurrent(0, 0)", x.faultCurrent(0, 0), 10000.0);
        Check.same("faultCurrent(0, 100)", x.faultCurrent(0, 100), 5000.0);
        Check.same("setSource", x.setSource(500.0, 5.0), 1.0);
    }

    private static void newObjectHasItsMargin() {
        Check.sentence(1, "There is a required margin, 0.3 seconds at first.");
        Check.same("setMargin", new FeederProtection().setMargin(0.4), 0.3);
    }

    private static void newLineHasTheFirstValues() {
        Check.sentence(1, "A relay has a pickup current in amperes (100 at first), a curve "
            + "(DEFINITE at first), a number of time steps from 1 to 20 (1 at first), an "
            + "instantaneous pickup in amperes or 0 if it has no instantaneous element "
            + "(0 at first), and a number of reclosing shots from 0 to 3 (0 at first).");
        FeederProtection x = Edges.chain(12);
        for (int relay = 0; relay < 12; relay++) {
            firstValues(x, relay);
        }
    }

    private static void firstValues(FeederProtection x, int relay) {
        Check.same("pickup(" + relay + ")", x.pickup(relay), 100);
        Check.same("steps(" + relay + ")", x.steps(relay), 1);
        Check.same("operatingTime below", x.operatingTime(relay, 100.0), Edges.INFINITE);
        Check.same("operatingTime above", x.operatingTime(relay, 500.0), 0.05);
        Check.same("setInstantaneous", x.setInstantaneous(relay, 9), 0);
        Check.same("setShots", x.setShots(relay, 1), 0);
        Check.same("loadCurrent(" + relay + ")", x.loadCurrent(relay), 0);
    }

    private static void newBreakerIsClosedAndFree() {
        Check.sentence(1, "Its breaker is closed or open (closed at first) and may be stuck "
            + "(not at first).");
        FeederProtection x = Edges.star(12);
        Check.same("openBreakers()", x.openBreakers(), 0);
        for (int relay = 0; relay < 12; relay++) {
            Check.same("setStuck(" + relay + ")", x.setStuck(relay, false), false);
        }
        Check.same("closeAll()", x.closeAll(), 0);
    }

    /** What undo took away leaves nothing behind for a line that comes in its place. */
    private static void lineThatComesAgainIsNew() {
        Check.sentence(3, "Adds a line with a new bus at its end.");
        FeederProtection x = new FeederProtection();
        x.addLine(0, 1.0);
        x.setRelay(0, 7, 3, 20);
        x.setLoad(1, 5000);
        x.setStuck(0, true);
        for (int i = 0; i < 4; i++) {
            x.undo();
        }
        x.addLine(0, 2.0);
        Check.same("setStuck(0, false)", x.setStuck(0, false), false);
        firstValues(x, 0);
        FeederProtection y = new FeederProtection();
        y.addLine(0, 1.0);
        y.setShots(0, 3);
        y.setInstantaneous(0, 1);
        y.simulate(0, 0, 1.0);
        for (int i = 0; i < 4; i++) {
            y.undo();
        }
        y.addLine(0, 2.0);
        Check.same("openBreakers()", y.openBreakers(), 0);
        Check.same("eventCount()", y.eventCount(), 0);
        firstValues(y, 0);
    }

    private static void sourceVoltage() {
        Check.sentence(2, "`voltage`: 100.0 to 1000000.0");
        Edges.doubles("voltage", 100.0, 1000000.0, Edges::busy, (x, v) -> x.setSource(v, 2.0));
        FeederProtection x = Edges.chain(1);
        x.setSource(100.0, 2.0);
        Check.same("faultCurrent at 100.0 volts", x.faultCurrent(0, 0), 50.0);
        x.setSource(1000000.0, 2.0);
        Check.same("faultCurrent at 1000000.0 volts", x.faultCurrent(0, 0), 500000.0);
    }

    private static void sourceImpedance() {
        Check.sentence(2, "`impedance`: 0.01 to 1000.0");
        Edges.doubles("impedance", 0.01, 1000.0, Edges::busy, (x, v) -> x.setSource(5000.0, v));
        FeederProtection x = Edges.chain(1);
        x.setSource(5000.0, 0.01);
        Check.same("faultCurrent at 0.01 ohms", x.faultCurrent(0, 0), 5000.0 / 0.01);
        x.setSource(5000.0, 1000.0);
        Check.same("faultCurrent at 1000.0 ohms", x.faultCurrent(0, 0), 5.0);
    }

    private static void sourceReturnsPrevious() {
        Check.sentence(2, "Returns the previous impedance.");
        FeederProtection x = new FeederProtection();
        Check.same("the first", x.setSource(100.0, 1000.0), 1.0);
        Check.same("the greatest", x.setSource(200.0, 0.01), 1000.0);
        Check.same("the least", x.setSource(300.0, 0.01), 0.01);
        Check.same("the same again", x.setSource(300.0, 7.0), 0.01);
        x.undo();
        Check.same("the one that undo brought back", x.setSource(300.0, 8.0), 0.01);
    }

    private static void sourceRefusesWhole() {
        Check.sentence(2, "Throws `IllegalArgumentException` if an argument is out of range");
        Edges.refused(Edges.ILLEGAL, "wrong voltage, good impedance", Edges::busy,
            x -> x.setSource(99.0, 5.0));
        Edges.refused(Edges.ILLEGAL, "good voltage, wrong impedance", Edges::busy,
            x -> x.setSource(5000.0, 1001.0));
        Edges.refused(Edges.ILLEGAL, "both wrong", Edges::busy, x -> x.setSource(0.0, 0.0));
    }

    private static void sourceNotANumber() {
        Check.sentence(2, "A double argument that is not a number is out of range.");
        Edges.notANumber("voltage", Edges::busy, (x, v) -> x.setSource(v, 5.0));
        Edges.notANumber("impedance", Edges::busy, (x, v) -> x.setSource(5000.0, v));
        Edges.notANumber("both", Edges::busy, (x, v) -> x.setSource(v, v));
    }

    private static void lineFromExistingBus() {
        Check.sentence(3, "`fromBus`: number of an existing bus");
        for (int lines = 0; lines < 12; lines++) {
            int count = lines;
            Edges.ints("fromBus, " + count + " lines,", 0, count, () -> Edges.chain(count),
                (x, bus) -> x.addLine(bus, 1.0));
            FeederProtection x = Edges.chain(count);
            x.addLine(count, 1.0);
            Check.same("upstream from the last bus", x.upstream(count), count - 1);
        }
    }

    private static void lineMakesItsBus() {
        Check.sentence(3, "Line k leads from an existing bus to bus k + 1, which is created "
            + "together with the line.");
        for (int line = 0; line < 11; line++) {
            int k = line;
            Edges.refused(Edges.ILLEGAL, "bus " + (k + 1) + " before line " + k,
                () -> Edges.star(k), x -> x.addLine(k + 1, 1.0));
            FeederProtection x = Edges.star(k + 1);
            Check.same("a load at its bus", x.setLoad(k + 1, 5), 0);
            Check.same("a line from its bus", x.addLine(k + 1, 1.0), k + 1);
            Check.same("its upstream", x.upstream(k + 1), k);
        }
        FeederProtection x = Edges.chain(2);
        x.undo();
        Check.same("the bus goes with its line",
            Check.thrownBy(() -> x.addLine(2, 1.0)), Edges.ILLEGAL.getName());
    }

    private static void lineImpedance() {
        Check.sentence(3, "`impedance`: 0.01 to 1000.0");
        Edges.doubles("impedance", 0.01, 1000.0, Edges::busy, (x, v) -> x.addLine(4, v));
        Edges.doubles("impedance of the first,", 0.01, 1000.0, FeederProtection::new,
            (x, v) -> x.addLine(0, v));
        FeederProtection x = new FeederProtection();
        x.addLine(0, 0.01);
        x.addLine(0, 1000.0);
        Check.same("0.01 ohms", x.faultCurrent(0, 100), 10000.0 / (1.0 + 0.01 * 100 / 100.0));
        Check.same("1000.0 ohms", x.faultCurrent(1, 100), 10000.0 / 1001.0);
    }

    private static void lineImpedanceNotANumber() {
        Check.sentence(3, "A double argument that is not a number is out of range.");
        Edges.notANumber("impedance", Edges::busy, (x, v) -> x.addLine(0, v));
    }

    private static void lineRefusesWhole() {
        Check.sentence(3, "Throws `IllegalArgumentException` if an argument is out of range");
        Edges.refused(Edges.ILLEGAL, "wrong bus, good impedance", Edges::busy,
            x -> x.addLine(5, 1.0));
        Edges.refused(Edges.ILLEGAL, "good bus, wrong impedance", Edges::busy,
            x -> x.addLine(4, 1000.1));
        Edges.refused(Edges.ILLEGAL, "both wrong", Edges::busy, x -> x.addLine(-1, 0.0));
        FeederProtection x = Edges.busy();
        Check.thrownBy(() -> x.addLine(5, 1.0));
        Check.same("a refused line takes no number", x.addLine(4, 1.0), 4);
    }

    private static void lineReturnsItsNumber() {
        Check.sentence(3, "Returns the number of the line.");
        FeederProtection x = new FeederProtection();
        for (int line = 0; line < 12; line++) {
            Check.same("line " + line, x.addLine(line / 2, 1.0), line);
        }
        x.undo();
        Check.same("after undo", x.addLine(0, 1.0), 11);
    }

    private static void lineTwelveIsTheLast() {
        Check.sentence(3, "There are at most 12 lines, numbered from 0.");
        FeederProtection x = Edges.chain(11);
        Check.same("the twelfth", x.addLine(11, 3.0), 11);
        Check.same("its upstream", x.upstream(11), 10);
        Check.same("its current", x.faultCurrent(11, 100), 10000.0 / 15.0);
        Check.same("its load", x.setLoad(12, 6), 0);
        Check.same("its load current", x.loadCurrent(11), 6);
        Check.same("its relay", x.setRelay(11, 50, 1, 2), 100);
        Check.same("its fault", x.simulate(11, 0, 1.0) > 0, true);
        Check.same("a thirteenth throws", Check.thrownBy(() -> x.addLine(0, 1.0)),
            Edges.STATE.getName());
    }

    private static void lineThirteenIsRefused() {
        Check.sentence(3, "Throws `IllegalStateException` if there are 12 lines");
        for (int bus = 0; bus <= 12; bus++) {
            int from = bus;
            Edges.refused(Edges.STATE, "from bus " + from, () -> Edges.chain(12),
                x -> x.addLine(from, 1.0));
        }
        Edges.refused(Edges.STATE, "the least impedance", () -> Edges.star(12),
            x -> x.addLine(0, 0.01));
        Edges.refused(Edges.STATE, "the greatest impedance", () -> Edges.star(12),
            x -> x.addLine(0, 1000.0));
        FeederProtection x = Edges.chain(12);
        x.undo();
        Check.same("room again after undo", x.addLine(0, 1.0), 11);
    }

    private static void lineThirteenAndOutOfRange() {
        Check.sentence(3, "If both exceptions of a method apply, IllegalArgumentException is "
            + "thrown.");
        for (int bus : new int[] {-1, 13, Integer.MIN_VALUE, Integer.MAX_VALUE}) {
            Edges.refused(Edges.ILLEGAL, "bus " + bus, () -> Edges.chain(12),
                x -> x.addLine(bus, 1.0));
        }
        double[] wrong = {Math.nextDown(0.01), Math.nextUp(1000.0), Double.NaN};
        for (double ohms : wrong) {
            Edges.refused(Edges.ILLEGAL, "impedance " + ohms, () -> Edges.chain(12),
                x -> x.addLine(12, ohms));
        }
        Edges.refused(Edges.ILLEGAL, "bus and impedance", () -> Edges.chain(12),
            x -> x.addLine(13, 0.0));
    }

    private static void loadOfExistingBus() {
        Check.sentence(4, "`bus`: number of an existing bus other than 0");
        for (int lines = 1; lines <= 12; lines++) {
            int count = lines;
            Edges.ints("bus, " + count + " lines,", 1, count, () -> Edges.chain(count),
                (x, bus) -> x.setLoad(bus, 7));
            FeederProtection x = Edges.star(count);
            x.setLoad(count, 7);
            Check.same("it is the load of the last bus", x.loadCurrent(count - 1), 7);
        }
        for (int bus = -1; bus <= 2; bus++) {
            int none = bus;
            Edges.refused(Edges.ILLEGAL, "bus " + bus + " without lines", FeederProtection::new,
                x -> x.setLoad(none, 7));
        }
    }

    private static void loadOfBusZero() {
        Check.sentence(4, "Each bus has a load in amperes (0 at first); bus 0 has none.");
        FeederProtection x = Edges.star(12);
        for (int bus = 1; bus <= 12; bus++) {
            Check.same("setLoad(" + bus + ")", x.setLoad(bus, bus), 0);
        }
        Edges.refused(Edges.ILLEGAL, "bus 0", () -> Edges.star(12), y -> y.setLoad(0, 7));
        Edges.refused(Edges.ILLEGAL, "bus 0, no load", () -> Edges.star(12), y -> y.setLoad(0, 0));
    }

    private static void loadAmperes() {
        Check.sentence(4, "`amperes`: 0 to 5000");
        Edges.ints("amperes", 0, 5000, Edges::busy, (x, v) -> x.setLoad(4, v));
        FeederProtection x = Edges.chain(1);
        x.setLoad(1, 5000);
        Check.same("5000 amperes", x.loadCurrent(0), 5000);
        x.setLoad(1, 0);
        Check.same("0 amperes", x.loadCurrent(0), 0);
    }

    private static void loadReturnsPrevious() {
        Check.sentence(4, "Returns the previous load.");
        FeederProtection x = Edges.chain(2);
        Check.same("the first", x.setLoad(2, 5000), 0);
        Check.same("the greatest", x.setLoad(2, 5000), 5000);
        Check.same("the same again", x.setLoad(2, 0), 5000);
        Check.same("none", x.setLoad(2, 3), 0);
        Check.same("of the other bus", x.setLoad(1, 4), 0);
    }

    private static void loadRefusesWhole() {
        Check.sentence(4, "Throws `IllegalArgumentException` if an argument is out of range");
        Edges.refused(Edges.ILLEGAL, "good bus, wrong load", Edges::busy, x -> x.setLoad(1, 5001));
        Edges.refused(Edges.ILLEGAL, "wrong bus, good load", Edges::busy, x -> x.setLoad(5, 5000));
        Edges.refused(Edges.ILLEGAL, "both wrong", Edges::busy, x -> x.setLoad(0, -1));
    }

    private static void loadCurrentOfExistingLine() {
        Check.sentence(5, "`line`: number of an existing line");
        Edges.existing("line", (x, line) -> x.loadCurrent(line));
    }

    private static void loadCurrentOfNoSuchLine() {
        Check.sentence(5, "Throws `IllegalArgumentException` if there is no such line");
        Edges.noSuch("line", (x, line) -> x.loadCurrent(line));
    }

    private static void loadCurrentOfTheEnds() {
        Check.sentence(5, "The load current of a line is the sum of the loads of all buses that "
            + "are fed over it.");
        FeederProtection x = Edges.chain(12);
        Check.same("no load", x.loadCurrent(0), 0);
        for (int bus = 1; bus <= 12; bus++) {
            x.setLoad(bus, 5000);
        }
        for (int line = 0; line < 12; line++) {
            Check.same("loadCurrent(" + line + ")", x.loadCurrent(line), 5000 * (12 - line));
        }
    }

    private static void loadCurrentOfBranches() {
        Check.sentence(5, "Line k leads from an existing bus to bus k + 1, which is created "
            + "together with the line.");
        FeederProtection x = Edges.star(11);
        x.addLine(1, 1.0);
        for (int bus = 1; bus <= 12; bus++) {
            x.setLoad(bus, bus);
        }
        Check.same("its own bus and the last one", x.loadCurrent(0), 1 + 12);
        for (int line = 1; line < 12; line++) {
            Check.same("loadCurrent(" + line + ")", x.loadCurrent(line), line + 1);
        }
    }

    private static void faultOfExistingLine() {
        Check.sentence(6, "`line`: number of an existing line");
        Edges.existing("line", (x, line) -> x.faultCurrent(line, 0));
        Edges.existing("line", (x, line) -> x.faultCurrent(line, 100));
        Edges.noSuch("line", (x, line) -> x.faultCurrent(line, 50));
    }

    private static void faultPercent() {
        Check.sentence(6, "`percent`: 0 to 100");
        Edges.ints("percent", 0, 100, Edges::busy, (x, v) -> x.faultCurrent(3, v));
        Edges.ints("percent", 0, 100, () -> Edges.chain(1), (x, v) -> x.faultCurrent(0, v));
        Edges.refused(Edges.ILLEGAL, "percent 101 with a line behind", () -> Edges.chain(2),
            x -> x.faultCurrent(0, 101));
    }

    private static void faultAtBothEnds() {
        Check.sentence(6, "A fault location is a line and a percentage from 0 to 100 (0 at the "
            + "beginning of the line, 100 at its end).");
        FeederProtection x = Edges.chain(12);
        Check.same("at the source", x.faultCurrent(0, 0), 10000.0);
        for (int line = 0; line < 12; line++) {
            Check.same("at the beginning", x.faultCurrent(line, 0), 10000.0 / (1.0 + line));
            Check.same("at the end", x.faultCurrent(line, 100), 10000.0 / (2.0 + line));
        }
        Check.same("just behind the beginning", x.faultCurrent(0, 1), 10000.0 / (1.0 + 1 / 100.0));
        Check.same("just before the end", x.faultCurrent(0, 99), 10000.0 / (1.0 + 99 / 100.0));
    }

    /** 0.1 + 0.2 + 0.3 is not 0.3 + 0.2 + 0.1, and 0.7 * 3 / 100.0 is not 0.7 * (3 / 100.0). */
    private static void faultPathIsInOrder() {
        Check.sentence(6, "start with the impedance of the source; add the impedances of the "
            + "lines of the path, without the last one, one after the other; then add "
            + "(impedance of the line) * percentage / 100.0.");
        FeederProtection x = new FeederProtection();
        x.setSource(1000.0, 0.1);
        double[] ohms = {0.2, 0.3, 0.7};
        for (int line = 0; line < 3; line++) {
            x.addLine(line, ohms[line]);
        }
        Check.same("another order is another sum", 0.1 + 0.2 + 0.3 == 0.3 + 0.2 + 0.1, false);
        boolean apart = false;
        for (int percent = 0; percent <= 100; percent++) {
            double part = 0.7 * percent / 100.0;
            apart |= part != 0.7 * (percent / 100.0);
            Check.same("at " + percent, x.faultCurrent(2, percent),
                1000.0 / (0.1 + 0.2 + 0.3 + part));
        }
        Check.same("another order is another part", apart, true);
    }

    private static void faultPathOfOneAndOfTwelve() {
        Check.sentence(6, "The path to a line is the sequence of lines from bus 0 to the end of "
            + "this line; the line itself is the last one.");
        FeederProtection x = Edges.star(12);
        for (int line = 0; line < 12; line++) {
            Check.same("a path of one line", x.faultCurrent(line, 50), 10000.0 / 1.5);
        }
        Check.same("a path of twelve lines", Edges.chain(12).faultCurrent(11, 50), 10000.0 / 12.5);
        FeederProtection y = Edges.chain(2);
        y.addLine(0, 4.0);
        y.addLine(2, 8.0);
        Check.same("a path around line 2", y.faultCurrent(3, 100), 10000.0 / 11.0);
    }

    private static void faultCurrentGreatestAndLeast() {
        Check.sentence(6, "The fault current is the voltage divided by this impedance.");
        FeederProtection x = new FeederProtection();
        x.setSource(1000000.0, 0.01);
        x.addLine(0, 0.01);
        Check.same("the greatest", x.faultCurrent(0, 0), 1000000.0 / 0.01);
        FeederProtection y = new FeederProtection();
        y.setSource(100.0, 1000.0);
        for (int line = 0; line < 12; line++) {
            y.addLine(line, 1000.0);
        }
        Check.same("the least", y.faultCurrent(11, 100), 100.0 / 13000.0);
    }

    private static void faultRefusesBoth() {
        Check.sentence(6, "Throws `IllegalArgumentException` if an argument is out of range");
        Edges.refused(Edges.ILLEGAL, "wrong line, good percent", Edges::busy,
            x -> x.faultCurrent(4, 50));
        Edges.refused(Edges.ILLEGAL, "both wrong", Edges::busy, x -> x.faultCurrent(-1, 101));
    }
}
