/** Promises 1 to 6: the new object, the source, lines, loads, load currents and fault currents. */
public final class NetworkTest {
    public static void main(String[] args) {
        promise1NewObject();
        promise2SetSource();
        promise3AddLine();
        promise3TwelveLines();
        promise3FullNetwork();
        promise4SetLoad();
        promise5LoadCurrent();
        promise6FaultCurrent();
        promise6OrderOfSums();
        Check.finish("NetworkTest");
    }

    private static void promise1NewObject() {
        FeederProtection x = new FeederProtection();
        Check.same("1: violationCount()", x.violationCount(), 0);
        Check.same("1: eventCount()", x.eventCount(), 0);
        Check.same("1: clearedTime()", x.clearedTime(), 0.0);
        Check.same("1: openBreakers()", x.openBreakers(), 0);
        Check.same("1: lostLoad()", x.lostLoad(), 0);
        Check.illegal("1: pickup(0) without lines", x, () -> x.pickup(0));
        Check.refused("1: undo() at first", x, IllegalStateException.class, () -> x.undo());
        Check.same("1: setMargin at first", x.setMargin(1.0), 0.3);
        Check.same("1: setSource at first", x.setSource(500.0, 5.0), 1.0);

        FeederProtection y = new FeederProtection();
        y.addLine(0, 4.0);
        Check.same("1: voltage at first", y.faultCurrent(0, 0), 10000.0);
        Check.same("1: loadCurrent at first", y.loadCurrent(0), 0);
        Check.same("1: pickup at first", y.pickup(0), 100);
        Check.same("1: steps at first", y.steps(0), 1);
        Check.same("1: curve at first", y.operatingTime(0, 500.0), 0.05);
        Check.same("1: setInstantaneous at first", y.setInstantaneous(0, 7), 0);
        Check.same("1: setShots at first", y.setShots(0, 2), 0);
        Check.same("1: setStuck at first", y.setStuck(0, true), false);
        Check.same("1: closeAll at first", y.closeAll(), 0);
        FeederProtection z = new FeederProtection();
        Check.illegal("1: another object has lines of its own", z, () -> z.steps(0));
    }

    private static void promise2SetSource() {
        FeederProtection x = new FeederProtection();
        x.addLine(0, 9.0);
        Check.same("2: first", x.setSource(20000.0, 2.5), 1.0);
        Check.same("2: near current", x.faultCurrent(0, 0), 20000.0 / 2.5);
        Check.same("2: far current", x.faultCurrent(0, 100), 20000.0 / 11.5);
        Check.same("2: least", x.setSource(100.0, 0.01), 2.5);
        Check.same("2: least current", x.faultCurrent(0, 0), 100.0 / (0.01 + 9.0 * 0 / 100.0));
        Check.same("2: greatest", x.setSource(1000000.0, 1000.0), 0.01);
        Check.same("2: the same again", x.setSource(1000000.0, 1000.0), 1000.0);
        double[] voltages = {99.99999999999999, 1000000.0000000001, -5.0, 0.0, Double.NaN,
            Double.POSITIVE_INFINITY, Double.NEGATIVE_INFINITY};
        for (double voltage : voltages) {
            Check.illegal("2: voltage " + voltage, x, () -> x.setSource(voltage, 1.0));
        }
        for (double ohms : wrongImpedances()) {
            Check.illegal("2: impedance " + ohms, x, () -> x.setSource(1000.0, ohms));
        }
        Check.same("2: kept", x.faultCurrent(0, 0), 1000.0);
    }

    static double[] wrongImpedances() {
        return new double[] {0.009999999999999998, 1000.0000000000001, 0.0, -0.0, -1.0, Double.NaN,
            Double.POSITIVE_INFINITY, Double.NEGATIVE_INFINITY, Double.MIN_VALUE};
    }

    private static void promise3AddLine() {
        FeederProtection x = new FeederProtection();
        Check.illegal("3: bus 1 before line 0", x, () -> x.addLine(1, 8.0));
        Check.illegal("3: bus -1", x, () -> x.addLine(-1, 8.0));
        Check.same("3: line 0", x.addLine(0, 0.01), 0);
        Check.same("3: line 1", x.addLine(1, 1000.0), 1);
        Check.same("3: line 2 from bus 0", x.addLine(0, 3.0), 2);
        Check.same("3: line 3 from bus 2", x.addLine(2, 3.0), 3);
        Check.same("3: upstream of 2", x.upstream(2), -1);
        Check.same("3: upstream of 3", x.upstream(3), 1);
        Check.illegal("3: bus 5", x, () -> x.addLine(5, 8.0));
        Check.illegal("3: greatest bus", x, () -> x.addLine(Integer.MAX_VALUE, 8.0));
        Check.illegal("3: least bus", x, () -> x.addLine(Integer.MIN_VALUE, 8.0));
        for (double ohms : wrongImpedances()) {
            Check.illegal("3: impedance " + ohms, x, () -> x.addLine(0, ohms));
        }
        Check.same("3: bus 4 is there", x.addLine(4, 8.0), 4);
    }

    private static void promise3TwelveLines() {
        FeederProtection x = new FeederProtection();
        for (int line = 0; line < 12; line++) {
            Check.same("3: line of twelve", x.addLine(line, 1.0), line);
        }
        Class<?> full = IllegalStateException.class;
        Check.refused("3: a thirteenth line", x, full, () -> x.addLine(0, 1.0));
        Check.refused("3: a thirteenth line, last bus", x, full, () -> x.addLine(12, 1.0));
        Check.illegal("3: full and no such bus", x, () -> x.addLine(13, 1.0));
        Check.illegal("3: full and wrong impedance", x, () -> x.addLine(0, 0.0));
        Check.same("3: room again after undo", x.undo(), 3);
        Check.same("3: line after undo", x.addLine(3, 2.0), 11);
        Check.same("3: its upstream", x.upstream(11), 2);
    }

    /** Every method finds its way in a network that has no room left. */
    private static void promise3FullNetwork() {
        FeederProtection x = new FeederProtection();
        for (int line = 0; line < 12; line++) {
            x.addLine(line, 1.0);
            x.setLoad(line + 1, 10);
        }
        Check.same("3: full: loadCurrent(0)", x.loadCurrent(0), 120);
        Check.same("3: full: loadCurrent(11)", x.loadCurrent(11), 10);
        Check.same("3: full: violationCount()", x.violationCount(), 11);
        Check.same("3: full: violation(0)", x.violation(0), 1);
        Check.same("3: full: violation(10)", x.violation(10), 11);
        Check.same("3: full: simulate", x.simulate(11, 100, 1.0), 24);
        Check.same("3: full: openBreakers()", x.openBreakers(), 4095);
        Check.same("3: full: lostLoad()", x.lostLoad(), 120);
        Check.same("3: full: autoPickup", x.autoPickup(100), 11);
        Check.same("3: full: pickup(11)", x.pickup(11), 10);
        Check.same("3: full: autoGrade()", x.autoGrade(), 8);
        Check.same("3: full: closeAll()", x.closeAll(), 12);
        Check.same("3: full: undo()", x.undo(), 3);
        Check.same("3: full: openBreakers() again", x.openBreakers(), 4095);
    }

    private static void promise4SetLoad() {
        FeederProtection x = new FeederProtection();
        Check.illegal("4: bus 1 without lines", x, () -> x.setLoad(1, 5));
        x.addLine(0, 1.0);
        x.addLine(1, 1.0);
        Check.same("4: first load", x.setLoad(1, 5000), 0);
        Check.same("4: load none", x.setLoad(1, 0), 5000);
        Check.same("4: load 7", x.setLoad(1, 7), 0);
        Check.same("4: other bus", x.setLoad(2, 9), 0);
        Check.same("4: the same", x.setLoad(2, 9), 9);
        Check.illegal("4: bus 0", x, () -> x.setLoad(0, 5));
        Check.illegal("4: bus -1", x, () -> x.setLoad(-1, 5));
        Check.illegal("4: bus 3", x, () -> x.setLoad(3, 5));
        Check.illegal("4: least bus", x, () -> x.setLoad(Integer.MIN_VALUE, 5));
        Check.illegal("4: load -1", x, () -> x.setLoad(1, -1));
        Check.illegal("4: load 5001", x, () -> x.setLoad(1, 5001));
        Check.same("4: kept", x.loadCurrent(0), 16);
    }

    private static void promise5LoadCurrent() {
        FeederProtection x = new FeederProtection();
        x.addLine(0, 1.0);
        x.addLine(1, 1.0);
        x.addLine(1, 1.0);
        x.addLine(3, 1.0);
        x.addLine(0, 1.0);
        int[] loads = {1, 20, 300, 4000, 5000};
        for (int bus = 1; bus <= 5; bus++) {
            x.setLoad(bus, loads[bus - 1]);
        }
        int[] due = {4321, 20, 4300, 4000, 5000};
        for (int line = 0; line < 5; line++) {
            Check.same("5: loadCurrent(" + line + ")", x.loadCurrent(line), due[line]);
        }
        x.simulate(2, 100, 100.0);
        Check.same("5: a breaker is open", x.openBreakers() != 0, true);
        Check.same("5: an open breaker does not count", x.loadCurrent(0), 4321);
        Check.illegal("5: line 5", x, () -> x.loadCurrent(5));
        Check.illegal("5: line -1", x, () -> x.loadCurrent(-1));
        Check.illegal("5: greatest line", x, () -> x.loadCurrent(Integer.MAX_VALUE));
    }

    private static void promise6FaultCurrent() {
        FeederProtection x = new FeederProtection();
        x.addLine(0, 8.0);
        x.addLine(1, 8.0);
        x.addLine(1, 24.0);
        x.addLine(0, 0.5);
        x.addLine(3, 3.0);
        Check.same("6: (0, 0)", x.faultCurrent(0, 0), 10000.0);
        Check.same("6: (0, 100)", x.faultCurrent(0, 100), 10000.0 / 9.0);
        Check.same("6: (1, 0)", x.faultCurrent(1, 0), 10000.0 / 9.0);
        Check.same("6: (1, 50)", x.faultCurrent(1, 50), 10000.0 / 13.0);
        Check.same("6: (1, 100)", x.faultCurrent(1, 100), 588.2352941176471);
        Check.same("6: (2, 25)", x.faultCurrent(2, 25), 10000.0 / 15.0);
        Check.same("6: (3, 100), beside the others", x.faultCurrent(3, 100), 10000.0 / 1.5);
        Check.same("6: (4, 100), over lines 0 and 2", x.faultCurrent(4, 100), 10000.0 / 36.0);
        Check.illegal("6: line 5", x, () -> x.faultCurrent(5, 0));
        Check.illegal("6: line -1", x, () -> x.faultCurrent(-1, 0));
        Check.illegal("6: 101 percent", x, () -> x.faultCurrent(0, 101));
        Check.illegal("6: -1 percent", x, () -> x.faultCurrent(0, -1));
        Check.illegal("6: least percent", x, () -> x.faultCurrent(0, Integer.MIN_VALUE));
    }

    /** Impedances whose sum depends on the order in which they are added. */
    private static void promise6OrderOfSums() {
        FeederProtection x = new FeederProtection();
        x.setSource(10000.0, 0.1);
        double[] ohms = {0.2, 999.9, 0.3, 0.7, 333.3};
        for (int line = 0; line < 5; line++) {
            x.addLine(line, ohms[line]);
        }
        double sum = 0.1;
        for (int line = 0; line < 5; line++) {
            for (int percent = 0; percent <= 100; percent++) {
                double due = 10000.0 / (sum + ohms[line] * percent / 100.0);
                Check.same("6: sums in order", x.faultCurrent(line, percent), due);
            }
            sum = sum + ohms[line];
        }
    }
}
