/** Promises 16 to 21: margins, violations, and the automatic settings. */
public final class GradingTest {
    private static final double INFINITE = Double.POSITIVE_INFINITY;

    public static void main(String[] args) {
        promise16SetMargin();
        promise17Margin();
        promise17InfiniteMargins();
        promise18ViolationCount();
        promise18JustBothEnds();
        promise19Violation();
        promise19EqualMargins();
        promise20AutoPickup();
        promise21AutoGrade();
        promise21Branches();
        promise21NoSuchSteps();
        Check.finish("GradingTest");
    }

    private static FeederProtection chain(int lines) {
        FeederProtection x = new FeederProtection();
        for (int line = 0; line < lines; line++) {
            x.addLine(line, 8.0);
        }
        return x;
    }

    private static void promise16SetMargin() {
        FeederProtection x = chain(2);
        Check.same("16: first", x.setMargin(0.05), 0.3);
        Check.same("16: least", x.setMargin(5.0), 0.05);
        Check.same("16: greatest", x.setMargin(0.4), 5.0);
        double[] wrong = {0.049999999999999996, 5.000000000000001, 0.0, -0.3, Double.NaN, INFINITE,
            Double.NEGATIVE_INFINITY};
        for (double seconds : wrong) {
            Check.illegal("16: " + seconds, x, () -> x.setMargin(seconds));
        }
        Check.same("16: kept", x.setMargin(0.4), 0.4);
    }

    private static void promise17Margin() {
        FeederProtection x = chain(3);
        x.setRelay(1, 200, 1, 1);
        x.setRelay(0, 400, 1, 1);
        Check.same("17: (1, 0)", x.margin(1, 0), 0.23151676829268297);
        double current = 10000.0 / (9.0 + 8.0 * 30 / 100.0);
        double due = 0.05 * 13.5 / (current / 400 - 1.0) - 0.05 * 13.5 / (current / 200 - 1.0);
        Check.same("17: (1, 30)", x.margin(1, 30), due);
        x.setRelay(2, 100, 0, 9);
        double far = 10000.0 / 25.0;
        double dueFar = 0.05 * 13.5 / (far / 200 - 1.0) - 0.05 * 9;
        Check.same("17: (2, 100), the upstream relay is 1", x.margin(2, 100), dueFar);
        Class<?> none = IllegalStateException.class;
        Check.refused("17: no upstream", x, none, () -> x.margin(0, 0));
        Check.illegal("17: no upstream and -1 percent", x, () -> x.margin(0, -1));
        Check.illegal("17: no upstream and 101 percent", x, () -> x.margin(0, 101));
        Check.illegal("17: relay 3", x, () -> x.margin(3, 0));
        Check.illegal("17: relay -1", x, () -> x.margin(-1, 0));
        Check.illegal("17: -1 percent", x, () -> x.margin(1, -1));
        Check.illegal("17: 101 percent", x, () -> x.margin(1, 101));
    }

    private static void promise17InfiniteMargins() {
        FeederProtection x = chain(2);
        x.setRelay(0, 20000, 0, 1);
        Check.same("17: only upstream rests", x.margin(1, 0), INFINITE);
        x.setRelay(1, 20000, 0, 1);
        Check.same("17: both rest", x.margin(1, 0), INFINITE);
        Check.same("17: both rest, no violation", x.violationCount(), 0);
        x.setRelay(0, 100, 0, 1);
        Check.same("17: only the relay rests", x.margin(1, 0), Double.NEGATIVE_INFINITY);
        Check.same("17: and is a violation", x.violationCount(), 1);
    }

    private static void promise18ViolationCount() {
        FeederProtection x = chain(3);
        Check.same("18: no steps between", x.violationCount(), 2);
        x.setRelay(0, 100, 0, 20);
        Check.same("18: enough over relay 1", x.violationCount(), 1);
        x.setRelay(0, 100, 0, 7);
        Check.same("18: just enough", x.violationCount(), x.margin(1, 0) < 0.3 ? 2 : 1);
        x.setMargin(x.margin(1, 0));
        Check.same("18: just the required margin", x.violationCount(), 1);
        Check.same("18: the violation is the other relay", x.violation(0), 2);
        Check.refused("18: just the required margin, violation(1)", x,
            IndexOutOfBoundsException.class, () -> x.violation(1));
        x.setMargin(x.margin(1, 0) + 0.001);
        Check.same("18: more than the margin", x.violationCount(), 2);
        FeederProtection near = chain(2);
        near.setRelay(0, 400, 3, 1);
        near.setInstantaneous(0, 1000);
        Check.same("18: 100 percent is enough", near.margin(1, 100) >= 0.3, true);
        Check.same("18: 0 percent is not", near.violationCount(), 1);
        FeederProtection far = chain(2);
        far.setRelay(0, 100, 0, 7);
        far.setInstantaneous(1, 1000);
        far.setRelay(1, 100, 0, 7);
        Check.same("18: at 0 percent enough", far.margin(1, 0) >= 0.3, true);
        Check.same("18: at 100 percent not", far.violationCount(), 1);
        Check.same("18: without lines", new FeederProtection().violationCount(), 0);
    }

    /** Instantaneous pickups between the currents at an end of the line and one percent from it. */
    private static void promise18JustBothEnds() {
        FeederProtection near = chain(2);
        near.setRelay(0, 100, 0, 20);
        near.setInstantaneous(0, 1105);
        Check.same("18: at 1 percent enough", near.margin(1, 1) >= 0.3, true);
        Check.same("18: a violation at 0 percent alone", near.violationCount(), 1);
        near.setInstantaneous(0, 1112);
        Check.same("18: none beyond 0 percent", near.violationCount(), 0);
        FeederProtection far = chain(2);
        far.setRelay(0, 100, 0, 7);
        far.setRelay(1, 100, 0, 7);
        far.setInstantaneous(1, 590);
        Check.same("18: at 99 percent enough", far.margin(1, 99) >= 0.3, true);
        Check.same("18: a violation at 100 percent alone", far.violationCount(), 1);
        far.setInstantaneous(1, 588);
        Check.same("18: none beyond 100 percent", far.violationCount(), 0);
    }

    private static void promise19Violation() {
        FeederProtection x = chain(4);
        x.setRelay(0, 100, 0, 3);
        x.setRelay(1, 100, 0, 2);
        x.setRelay(2, 100, 0, 5);
        x.setRelay(3, 100, 0, 4);
        Class<?> none = IndexOutOfBoundsException.class;
        Check.same("19: count", x.violationCount(), 3);
        Check.same("19: the smallest margin", x.violation(0), 2);
        Check.same("19: in the middle", x.violation(1), x.margin(3, 0) < x.margin(1, 0) ? 3 : 1);
        Check.same("19: the last one", x.violation(2), x.margin(3, 0) < x.margin(1, 0) ? 1 : 3);
        Check.refused("19: index 3", x, none, () -> x.violation(3));
        Check.refused("19: index -1", x, none, () -> x.violation(-1));
        Check.refused("19: least index", x, none, () -> x.violation(Integer.MIN_VALUE));
        Check.refused("19: greatest index", x, none, () -> x.violation(Integer.MAX_VALUE));
        x.setRelay(2, 20000, 0, 1);
        Check.same("19: minus infinity first", x.violation(0), 2);
        FeederProtection y = new FeederProtection();
        Check.refused("19: without lines", y, none, () -> y.violation(0));
    }

    private static void promise19EqualMargins() {
        FeederProtection x = new FeederProtection();
        x.addLine(0, 8.0);
        for (int line = 1; line < 5; line++) {
            x.addLine(1, 8.0);
        }
        x.setRelay(3, 100, 0, 2);
        int[] due = {3, 1, 2, 4};
        Check.same("19: equal margins: count", x.violationCount(), 4);
        for (int i = 0; i < 4; i++) {
            Check.same("19: equal margins: violation(" + i + ")", x.violation(i), due[i]);
        }
    }

    private static void promise20AutoPickup() {
        FeederProtection x = chain(3);
        Check.same("20: without loads", x.autoPickup(100), 3);
        Check.same("20: at least 1", x.pickup(0), 1);
        Check.same("20: nothing changes", x.autoPickup(300), 0);
        x.setLoad(1, 5000);
        x.setLoad(2, 5000);
        x.setLoad(3, 33);
        Check.same("20: all change", x.autoPickup(125), 3);
        Check.same("20: relay 0", x.pickup(0), (10033 * 125 + 99) / 100);
        Check.same("20: relay 1", x.pickup(1), (5033 * 125 + 99) / 100);
        Check.same("20: rounded up", x.pickup(2), 42);
        Check.same("20: at most 20000", x.autoPickup(300), 3);
        Check.same("20: relay 0 at most", x.pickup(0), 20000);
        Check.same("20: relay 2", x.pickup(2), 99);
        x.setLoad(3, 34);
        Check.same("20: two change", x.autoPickup(300), 2);
        Check.same("20: just the load", x.autoPickup(100) + x.pickup(2), 3 + 34);
        Check.same("20: steps stay", x.steps(2), 1);
        Check.illegal("20: 99 percent", x, () -> x.autoPickup(99));
        Check.illegal("20: 301 percent", x, () -> x.autoPickup(301));
        Check.illegal("20: greatest percent", x, () -> x.autoPickup(Integer.MAX_VALUE));
        Check.same("20: no relays", new FeederProtection().autoPickup(100), 0);
    }

    private static void promise21AutoGrade() {
        FeederProtection x = chain(2);
        x.setRelay(1, 200, 1, 1);
        x.setRelay(0, 400, 1, 1);
        Check.same("21: example", x.autoGrade(), 0);
        Check.same("21: example, steps(0)", x.steps(0), 2);
        FeederProtection y = chain(3);
        y.setRelay(0, 100, 0, 20);
        y.setRelay(1, 100, 0, 15);
        y.setRelay(2, 100, 0, 12);
        Check.same("21: chain", y.autoGrade(), 0);
        Check.same("21: the last relay gets the fewest steps", y.steps(2), 1);
        int middle = fewestSteps(1, 0.3);
        Check.same("21: the new steps count", y.steps(1), middle);
        Check.same("21: and so on", y.steps(0), fewestSteps(middle, 0.3));
        Check.same("21: no violations", y.violationCount(), 0);
        Check.same("21: pickups stay", y.pickup(1), 100);
        Check.same("21: no relays", new FeederProtection().autoGrade(), 0);
    }

    /** For two definite relays in series. */
    private static int fewestSteps(int behind, double margin) {
        int steps = 1;
        while (!(0.05 * steps - 0.05 * behind >= margin)) {
            steps++;
        }
        return steps;
    }

    private static void promise21Branches() {
        FeederProtection x = new FeederProtection();
        x.addLine(0, 8.0);
        x.addLine(1, 8.0);
        x.addLine(1, 8.0);
        x.addLine(2, 8.0);
        x.setMargin(0.2);
        Check.same("21: branches", x.autoGrade(), 0);
        int middle = fewestSteps(1, 0.2);
        Check.same("21: branches, relay 1", x.steps(1), middle);
        Check.same("21: branches, relay 2", x.steps(2), 1);
        Check.same("21: the slower branch decides", x.steps(0), fewestSteps(middle, 0.2));
    }

    private static void promise21NoSuchSteps() {
        FeederProtection x = chain(2);
        x.setRelay(1, 20000, 0, 5);
        Check.same("21: the relay behind rests", x.autoGrade(), 1);
        Check.same("21: twenty steps", x.steps(0), 20);
        Check.same("21: one step", x.steps(1), 1);
        FeederProtection y = chain(5);
        Check.same("21: too long a chain", y.autoGrade(), 1);
        Check.same("21: too long a chain, relay 0", y.steps(0), 20);
        FeederProtection z = chain(2);
        z.setInstantaneous(0, 1);
        Check.same("21: instantaneous upstream", z.autoGrade(), 1);
        Check.same("21: instantaneous upstream, steps", z.steps(0), 20);
        FeederProtection w = chain(2);
        w.setRelay(0, 20000, 0, 9);
        w.setRelay(1, 20000, 0, 9);
        Check.same("21: both rest", w.autoGrade(), 0);
        Check.same("21: both rest, steps(0)", w.steps(0), 1);
        Check.same("21: both rest, steps(1)", w.steps(1), 1);
    }
}
