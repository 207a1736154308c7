/** The four examples of the document, call by call. */
public final class ExamplesTest {
    public static void main(String[] args) {
        gradingOfTwoRelays();
        reclosingWithoutSuccess();
        backupForAStuckBreaker();
        exceptionsAndADefiniteTime();
        Check.finish("ExamplesTest");
    }

    private static void gradingOfTwoRelays() {
        FeederProtection x = new FeederProtection();
        Check.same("example 1: addLine", x.addLine(0, 8), 0);
        Check.same("example 1: addLine", x.addLine(1, 8), 1);
        Check.same("example 1: faultCurrent", x.faultCurrent(0, 0), 10000.0);
        Check.same("example 1: faultCurrent", x.faultCurrent(1, 100), 588.2352941176471);
        Check.same("example 1: setRelay", x.setRelay(1, 200, 1, 1), 100);
        Check.same("example 1: setRelay", x.setRelay(0, 400, 1, 1), 100);
        Check.same("example 1: margin", x.margin(1, 0), 0.23151676829268297);
        Check.same("example 1: violationCount", x.violationCount(), 1);
        Check.same("example 1: autoGrade", x.autoGrade(), 0);
        Check.same("example 1: steps", x.steps(0), 2);
        Check.same("example 1: violationCount", x.violationCount(), 0);
    }

    private static void reclosingWithoutSuccess() {
        FeederProtection x = new FeederProtection();
        Check.same("example 2: addLine", x.addLine(0, 8), 0);
        Check.same("example 2: setRelay", x.setRelay(0, 200, 0, 4), 100);
        Check.same("example 2: setShots", x.setShots(0, 1), 0);
        Check.same("example 2: simulate", x.simulate(0, 50, 8000), 5);
        Check.same("example 2: eventCount", x.eventCount(), 5);
        Check.same("example 2: event(0)", x.event(0), 0);
        Check.same("example 2: eventTime(0)", x.eventTime(0), 0.2);
        Check.same("example 2: event(1)", x.event(1), 200);
        Check.same("example 2: event(2)", x.event(2), 300);
        Check.same("example 2: eventTime(2)", x.eventTime(2), 0.76);
        Check.same("example 2: clearedTime", x.clearedTime(), 1.02);
        Check.same("example 2: openBreakers", x.openBreakers(), 1);
    }

    private static void backupForAStuckBreaker() {
        FeederProtection x = new FeederProtection();
        Check.same("example 3: addLine", x.addLine(0, 8), 0);
        Check.same("example 3: addLine", x.addLine(1, 8), 1);
        Check.same("example 3: setRelay", x.setRelay(0, 400, 0, 10), 100);
        Check.same("example 3: setRelay", x.setRelay(1, 200, 0, 4), 100);
        Check.same("example 3: setStuck", x.setStuck(1, true), false);
        Check.same("example 3: simulate", x.simulate(1, 0, 8000), 4);
        Check.same("example 3: event(1)", x.event(1), 101);
        Check.same("example 3: event(2)", x.event(2), 0);
        Check.same("example 3: eventTime(2)", x.eventTime(2), 0.5);
        Check.same("example 3: clearedTime", x.clearedTime(), 0.56);
        Check.same("example 3: openBreakers", x.openBreakers(), 1);
    }

    private static void exceptionsAndADefiniteTime() {
        FeederProtection x = new FeederProtection();
        Check.illegal("example 4: addLine(1, 8)", x, () -> x.addLine(1, 8));
        Check.same("example 4: addLine", x.addLine(0, 8), 0);
        Check.refused("example 4: margin", x, IllegalStateException.class, () -> x.margin(0, 0));
        Check.refused("example 4: violation", x, IndexOutOfBoundsException.class,
            () -> x.violation(0));
        Check.same("example 4: operatingTime", x.operatingTime(0, 800), 0.05);
        Check.same("example 4: operatingTime", x.operatingTime(0, 808), 0.05);
    }
}
