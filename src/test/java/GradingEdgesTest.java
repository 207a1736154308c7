/** The sentences of promises 16 to 21 that name an edge, each in a test of its own. */
public final class GradingEdgesTest {
    private static final double MINUS_INFINITE = Double.NEGATIVE_INFINITY;

    public static void main(String[] args) {
        marginSeconds();
        marginSecondsNotANumber();
        marginSecondsOutOfRange();
        marginReturnsPrevious();
        marginOfExisting();
        marginPercent();
        marginRefusesWhole();
        marginWithoutUpstream();
        marginWithoutUpstreamAndOutOfRange();
        marginIfUpstreamRests();
        marginAtTheVeryPickup();
        violationIsLess();
        violationAtOneEnd();
        violationNotBetween();
        violationNeedsUpstream();
        violationOfNoneAndOfAll();
        violationWithInfiniteMargins();
        violationIndex();
        violationIndexOfNone();
        violationByWorst();
        violationOfEqualOnes();
        violationOfEqualInfiniteOnes();
        pickupPercent();
        pickupPercentOutOfRange();
        pickupRoundedUp();
        pickupAtLeastOne();
        pickupAtMost();
        pickupCountsChanges();
        gradeSmallest();
        gradeTwentyIsEnough();
        gradeTwentyIsTooFew();
        gradeAtLeastTheMargin();
        gradeAtBothEnds();
        gradeNotBetween();
        gradeOnlyItsOwn();
        gradeFromTheGreatest();
        gradeCountsFailures();
        Check.finish("GradingEdgesTest");
    }

    private static void marginSeconds() {
        Check.sentence(16, "`seconds`: 0.05 to 5.0");
        Edges.doubles("seconds", 0.05, 5.0, Edges::busy, (x, v) -> x.setMargin(v));
        Edges.doubles("seconds", 0.05, 5.0, FeederProtection::new, (x, v) -> x.setMargin(v));
    }

    private static void marginSecondsNotANumber() {
        Check.sentence(16, "A double argument that is not a number is out of range.");
        Edges.notANumber("seconds", Edges::busy, (x, v) -> x.setMargin(v));
    }

    private static void marginSecondsOutOfRange() {
        Check.sentence(16, "Throws `IllegalArgumentException` if seconds is out of range");
        for (double seconds : new double[] {-0.3, 0.0, 0.0499, 5.001, 1e300, Edges.INFINITE}) {
            Edges.refused(Edges.ILLEGAL, "seconds " + seconds, Edges::busy,
                x -> x.setMargin(seconds));
        }
    }

    private static void marginReturnsPrevious() {
        Check.sentence(16, "Returns the previous required margin.");
        FeederProtection x = new FeederProtection();
        Check.same("at first", x.setMargin(5.0), 0.3);
        Check.same("the greatest", x.setMargin(0.05), 5.0);
        Check.same("the least", x.setMargin(0.05), 0.05);
        Check.same("the same again", x.setMargin(1.0), 0.05);
        x.undo();
        Check.same("the one that undo brought back", x.setMargin(1.0), 0.05);
    }

    private static void marginOfExisting() {
        Check.sentence(17, "`relay`: number of an existing relay");
        for (int lines = 0; lines <= 12; lines += 6) {
            int count = lines;
            for (int relay : new int[] {-1, count, 12, Integer.MIN_VALUE, Integer.MAX_VALUE}) {
                Edges.refused(Edges.ILLEGAL, "relay " + relay + " of " + count,
                    () -> Edges.chain(count), x -> x.margin(relay, 0));
            }
        }
        FeederProtection x = Edges.chain(12);
        for (int relay = 1; relay < 12; relay++) {
            Check.same("relay " + relay, x.margin(relay, 0), 0.05 - 0.05);
        }
    }

    private static void marginPercent() {
        Check.sentence(17, "`percent`: 0 to 100");
        Edges.ints("percent", 0, 100, Edges::busy, (x, v) -> x.margin(3, v));
        FeederProtection x = Edges.chain(2);
        x.setRelay(0, 200, 1, 3);
        double near = 10000.0 / 2.0;
        double far = 10000.0 / 3.0;
        Check.same("0", x.margin(1, 0), 0.05 * 3 * 13.5 / (near / 200 - 1.0) - 0.05);
        Check.same("100", x.margin(1, 100), 0.05 * 3 * 13.5 / (far / 200 - 1.0) - 0.05);
    }

    private static void marginRefusesWhole() {
        Check.sentence(17, "Throws `IllegalArgumentException` if an argument is out of range");
        Edges.noSuch("relay", (x, relay) -> x.margin(relay, 50));
        Edges.refused(Edges.ILLEGAL, "wrong relay, good percent", Edges::busy,
            x -> x.margin(4, 50));
        Edges.refused(Edges.ILLEGAL, "good relay, wrong percent", Edges::busy,
            x -> x.margin(3, 101));
        Edges.refused(Edges.ILLEGAL, "both wrong", Edges::busy, x -> x.margin(-1, -1));
    }

    private static void marginWithoutUpstream() {
        Check.sentence(17, "Throws `IllegalStateException` if the relay has no upstream relay");
        for (int relay = 0; relay < 12; relay++) {
            int r = relay;
            Edges.refused(Edges.STATE, "relay " + r + ", 0", () -> Edges.star(12),
                x -> x.margin(r, 0));
            Edges.refused(Edges.STATE, "relay " + r + ", 100", () -> Edges.star(12),
                x -> x.margin(r, 100));
        }
        Edges.refused(Edges.STATE, "relay 0 of a chain", Edges::busy, x -> x.margin(0, 50));
    }

    private static void marginWithoutUpstreamAndOutOfRange() {
        Check.sentence(17, "If both exceptions of a method apply, IllegalArgumentException is "
            + "thrown.");
        for (int percent : new int[] {-1, 101, Integer.MIN_VALUE, Integer.MAX_VALUE}) {
            Edges.refused(Edges.ILLEGAL, "relay 0, percent " + percent, Edges::busy,
                x -> x.margin(0, percent));
        }
    }

    /** With the pickup 20000 a relay rests at the currents of the chain. */
    private static void marginIfUpstreamRests() {
        Check.sentence(17, "If the upstream relay does not operate, the margin is positive "
            + "infinity; if only r does not operate, it is negative infinity.");
        int[] pickups = {100, 20000};
        double[] due = {0.05 * 9 - 0.05 * 2, MINUS_INFINITE, Edges.INFINITE, Edges.INFINITE};
        for (int i = 0; i < 4; i++) {
            FeederProtection x = Edges.chain(2);
            x.setRelay(0, pickups[i / 2], 0, 9);
            x.setRelay(1, pickups[i % 2], 0, 2);
            Check.same("case " + i + ", 0", x.margin(1, 0), due[i]);
            Check.same("case " + i + ", 50", x.margin(1, 50), due[i]);
            Check.same("case " + i + ", 100", x.margin(1, 100), due[i]);
        }
    }

    /** The fault current at the beginning of line 1 is 5000.0. */
    private static void marginAtTheVeryPickup() {
        Check.sentence(17, "If M is not greater than 1.0, the relay does not operate, and the "
            + "time is positive infinity.");
        FeederProtection x = Edges.chain(2);
        x.setRelay(0, 5000, 0, 9);
        Check.same("upstream at its pickup", x.margin(1, 0), Edges.INFINITE);
        x.setRelay(0, 4999, 0, 9);
        Check.same("upstream just above", x.margin(1, 0), 0.05 * 9 - 0.05);
        x.setRelay(1, 5000, 0, 1);
        Check.same("the relay at its pickup", x.margin(1, 0), MINUS_INFINITE);
        x.setRelay(0, 5000, 0, 9);
        Check.same("both at their pickups", x.margin(1, 0), Edges.INFINITE);
    }

    private static void violationIsLess() {
        Check.sentence(18, "A relay with an upstream relay is a violation if its margin for 0 "
            + "percent or its margin for 100 percent is less than the required margin.");
        for (int steps = 3; steps <= 20; steps++) {
            FeederProtection x = Edges.chain(2);
            x.setRelay(0, 100, 0, steps);
            double margin = 0.05 * steps - 0.05;
            x.setMargin(margin);
            Check.same("steps " + steps + ", the very margin", x.violationCount(), 0);
            Check.same("steps " + steps + ", the very margin, violation(0)",
                Check.thrownBy(() -> x.violation(0)), Edges.INDEX.getName());
            x.setMargin(Math.nextDown(margin));
            Check.same("steps " + steps + ", just less", x.violationCount(), 0);
            x.setMargin(Math.nextUp(margin));
            Check.same("steps " + steps + ", just more", x.violationCount(), 1);
            Check.same("steps " + steps + ", just more, violation(0)", x.violation(0), 1);
        }
    }

    private static void violationAtOneEnd() {
        Check.sentence(18, "A relay with an upstream relay is a violation if its margin for 0 "
            + "percent or its margin for 100 percent is less than the required margin.");
        FeederProtection near = Edges.chain(2);
        near.setRelay(0, 100, 0, 20);
        near.setInstantaneous(0, 5000);
        Check.same("at 0 percent 5000.0 amperes flow", near.faultCurrent(1, 0), 5000.0);
        Check.same("0 percent: too small", near.margin(1, 0), 0.04 - 0.05);
        Check.same("1 percent: enough", near.margin(1, 1), 0.05 * 20 - 0.05);
        Check.same("0 percent alone", near.violationCount(), 1);
        near.setInstantaneous(0, 5001);
        Check.same("beyond 0 percent", near.violationCount(), 0);
        FeederProtection far = Edges.chain(2);
        far.setSource(9000.0, 1.0);
        far.setRelay(0, 100, 0, 9);
        far.setRelay(1, 100, 0, 9);
        far.setInstantaneous(1, 3001);
        Check.same("at 100 percent 3000.0 amperes flow", far.faultCurrent(1, 100), 3000.0);
        Check.same("99 percent: enough", far.margin(1, 99), 0.05 * 9 - 0.04);
        Check.same("100 percent: too small", far.margin(1, 100), 0.0);
        Check.same("100 percent alone", far.violationCount(), 1);
        far.setInstantaneous(1, 3000);
        Check.same("beyond 100 percent", far.violationCount(), 0);
    }

    /** Upstream rests at the far end, and at the near end the relay is instantaneous. */
    private static FeederProtection badInTheMiddle() {
        FeederProtection x = Edges.chain(2);
        x.setRelay(0, 3900, 0, 10);
        x.setRelay(1, 100, 0, 20);
        x.setInstantaneous(1, 4500);
        Check.same("0 percent: enough", x.margin(1, 0), 0.05 * 10 - 0.04);
        Check.same("50 percent: too small", x.margin(1, 50), 0.05 * 10 - 0.05 * 20);
        Check.same("100 percent: enough", x.margin(1, 100), Edges.INFINITE);
        return x;
    }

    private static void violationNotBetween() {
        Check.sentence(18, "its margin for 0 percent or its margin for 100 percent is less than");
        Check.same("between the ends does not count", badInTheMiddle().violationCount(), 0);
    }

    private static void violationNeedsUpstream() {
        Check.sentence(18, "A relay with an upstream relay is a violation");
        FeederProtection x = Edges.star(12);
        x.setMargin(5.0);
        Check.same("none has an upstream relay", x.violationCount(), 0);
        for (int relay = 0; relay < 12; relay++) {
            x.setRelay(relay, 20000, 0, 20);
        }
        Check.same("nor do they when they rest", x.violationCount(), 0);
        FeederProtection y = Edges.star(11);
        y.addLine(11, 1.0);
        Check.same("one has", y.violationCount(), 1);
        Check.same("it is the last one", y.violation(0), 11);
    }

    private static void violationOfNoneAndOfAll() {
        Check.sentence(18, "Returns the number of violations.");
        Check.same("no lines", new FeederProtection().violationCount(), 0);
        for (int lines = 1; lines <= 12; lines++) {
            Check.same("chain of " + lines, Edges.chain(lines).violationCount(), lines - 1);
        }
    }

    private static void violationWithInfiniteMargins() {
        Check.sentence(18, "If the upstream relay does not operate, the margin is positive "
            + "infinity; if only r does not operate, it is negative infinity.");
        FeederProtection x = Edges.chain(2);
        x.setMargin(5.0);
        x.setRelay(0, 20000, 0, 1);
        Check.same("positive infinity is none", x.violationCount(), 0);
        x.setRelay(1, 20000, 0, 1);
        Check.same("nor if both rest", x.violationCount(), 0);
        x.setRelay(0, 100, 0, 20);
        x.setMargin(0.05);
        Check.same("negative infinity is one", x.violationCount(), 1);
        FeederProtection half = Edges.chain(2);
        half.setRelay(0, 100, 0, 20);
        half.setRelay(1, 4000, 0, 1);
        Check.same("0 percent: enough", half.margin(1, 0) >= 0.3, true);
        Check.same("100 percent: the relay rests", half.margin(1, 100), MINUS_INFINITE);
        Check.same("negative infinity at one end", half.violationCount(), 1);
    }

    private static void violationIndex() {
        Check.sentence(19, "`index`: 0 to violationCount() - 1");
        for (int lines = 2; lines <= 12; lines++) {
            int count = lines - 1;
            FeederProtection x = Edges.chain(lines);
            for (int index = 0; index < count; index++) {
                Check.same("violation(" + index + ")", x.violation(index), index + 1);
            }
            int all = lines;
            for (int index : new int[] {-1, count, count + 1, Integer.MIN_VALUE,
                Integer.MAX_VALUE}) {
                Edges.refused(Edges.INDEX, "violation(" + index + ") of " + count,
                    () -> Edges.chain(all), y -> y.violation(index));
            }
        }
    }

    private static void violationIndexOfNone() {
        Check.sentence(19, "Throws `IndexOutOfBoundsException` if there is no such violation");
        for (int index : new int[] {-1, 0, 1, 11, Integer.MIN_VALUE, Integer.MAX_VALUE}) {
            Edges.refused(Edges.INDEX, "violation(" + index + ") without lines",
                FeederProtection::new, x -> x.violation(index));
            Edges.refused(Edges.INDEX, "violation(" + index + ") of relays at bus 0",
                () -> Edges.star(12), x -> x.violation(index));
        }
    }

    /** Relays 1, 2 and 3 lie behind relay 0: their margins at the ends are in opposite orders. */
    private static void violationByWorst() {
        Check.sentence(19, "The worst margin of a violation is the smaller one of both.");
        FeederProtection x = new FeederProtection();
        x.addLine(0, 1.0);
        for (int line = 1; line <= 3; line++) {
            x.addLine(1, 1.0);
        }
        x.setMargin(5.0);
        x.setRelay(0, 100, 0, 20);
        x.setRelay(1, 100, 0, 10);
        x.setRelay(2, 100, 0, 12);
        x.setInstantaneous(2, 5000);
        x.setRelay(3, 4999, 0, 1);
        Check.same("relay 1 at 0", x.margin(1, 0), 1.0 - 0.05 * 10);
        Check.same("relay 1 at 100", x.margin(1, 100), 1.0 - 0.05 * 10);
        Check.same("relay 2 at 0", x.margin(2, 0), 1.0 - 0.04);
        Check.same("relay 2 at 100", x.margin(2, 100), 1.0 - 0.05 * 12);
        Check.same("relay 3 at 0", x.margin(3, 0), 1.0 - 0.05);
        Check.same("relay 3 at 100", x.margin(3, 100), MINUS_INFINITE);
        Check.same("violationCount()", x.violationCount(), 3);
        Check.same("violation(0)", x.violation(0), 3);
        Check.same("violation(1)", x.violation(1), 2);
        Check.same("violation(2)", x.violation(2), 1);
    }

    private static void violationOfEqualOnes() {
        Check.sentence(19, "The violations are ordered by their worst margins, the smallest one "
            + "first; of equal ones the relay with the lower number comes first.");
        FeederProtection x = new FeederProtection();
        x.addLine(0, 1.0);
        for (int line = 1; line < 12; line++) {
            x.addLine(1, 1.0);
        }
        for (int index = 0; index < 11; index++) {
            Check.same("all equal, violation(" + index + ")", x.violation(index), index + 1);
        }
        x.setRelay(11, 100, 0, 2);
        x.setRelay(6, 100, 0, 2);
        int[] due = {6, 11, 1, 2, 3, 4, 5, 7, 8, 9, 10};
        for (int index = 0; index < 11; index++) {
            Check.same("two smaller, violation(" + index + ")", x.violation(index), due[index]);
        }
    }

    private static void violationOfEqualInfiniteOnes() {
        Check.sentence(19, "of equal ones the relay with the lower number comes first.");
        FeederProtection x = new FeederProtection();
        x.addLine(0, 1.0);
        for (int line = 1; line <= 4; line++) {
            x.addLine(1, 1.0);
        }
        x.setRelay(1, 100, 0, 20);
        x.setRelay(2, 20000, 0, 1);
        x.setRelay(4, 20000, 0, 9);
        int[] due = {2, 4, 1, 3};
        for (int index = 0; index < 4; index++) {
            Check.same("violation(" + index + ")", x.violation(index), due[index]);
        }
    }

    private static void pickupPercent() {
        Check.sentence(20, "`percent`: 100 to 300");
        Edges.ints("percent", 100, 300, Edges::busy, (x, v) -> x.autoPickup(v));
        Edges.ints("percent without lines", 100, 300, FeederProtection::new,
            (x, v) -> x.autoPickup(v));
        FeederProtection x = Edges.chain(1);
        x.setLoad(1, 5000);
        x.autoPickup(100);
        Check.same("100", x.pickup(0), 5000);
        x.autoPickup(300);
        Check.same("300", x.pickup(0), 15000);
    }

    private static void pickupPercentOutOfRange() {
        Check.sentence(20, "Throws `IllegalArgumentException` if percent is out of range");
        for (int percent : new int[] {-100, -1, 0, 1, 99, 301, 400}) {
            Edges.refused(Edges.ILLEGAL, "percent " + percent, Edges::busy,
                x -> x.autoPickup(percent));
        }
    }

    private static void pickupRoundedUp() {
        Check.sentence(20, "the pickup current becomes (load current * percent + 99) / 100 "
            + "(integer division)");
        int[][] cases = {{1, 100, 1}, {1, 101, 2}, {99, 101, 100}, {100, 101, 101}, {101, 101, 103},
            {50, 200, 100}, {50, 199, 100}, {50, 201, 101}, {25, 104, 26}, {25, 105, 27},
            {25, 103, 26}, {5000, 299, 14950}};
        for (int[] c : cases) {
            FeederProtection x = Edges.chain(1);
            x.setLoad(1, c[0]);
            x.autoPickup(c[1]);
            Check.same(c[0] + " amperes at " + c[1], x.pickup(0), c[2]);
        }
    }

    private static void pickupAtLeastOne() {
        Check.sentence(20, "but at least 1 and at most 20000");
        for (int percent = 100; percent <= 300; percent += 200) {
            FeederProtection x = Edges.chain(2);
            x.setLoad(1, 1);
            x.autoPickup(percent);
            Check.same("load 1", x.pickup(0), percent / 100);
            Check.same("no load", x.pickup(1), 1);
        }
    }

    /** Buses that together have as much load as is asked for. */
    private static FeederProtection loaded(int amperes) {
        FeederProtection x = Edges.chain(12);
        int left = amperes;
        for (int bus = 1; bus <= 12; bus++) {
            int load = Math.min(left, 5000);
            x.setLoad(bus, load);
            left -= load;
        }
        return x;
    }

    private static void pickupAtMost() {
        Check.sentence(20, "but at least 1 and at most 20000");
        int[][] cases = {{19999, 100, 19999}, {20000, 100, 20000}, {20001, 100, 20000},
            {6666, 300, 19998}, {6667, 300, 20000}, {10000, 200, 20000}, {9999, 200, 19998},
            {60000, 100, 20000}, {60000, 300, 20000}};
        for (int[] c : cases) {
            FeederProtection x = loaded(c[0]);
            x.autoPickup(c[1]);
            Check.same(c[0] + " amperes at " + c[1], x.pickup(0), c[2]);
        }
    }

    private static void pickupCountsChanges() {
        Check.sentence(20, "Returns the number of relays whose pickup current has changed.");
        FeederProtection x = loaded(60000);
        Check.same("all twelve", x.autoPickup(300), 12);
        Check.same("none", x.autoPickup(300), 0);
        Check.same("those below the most", x.autoPickup(299), 1);
        x.setLoad(1, 4999);
        Check.same("still at the most", x.autoPickup(299), 0);
        FeederProtection y = Edges.star(12);
        y.setLoad(12, 100);
        Check.same("all but the one that is at 100 already", y.autoPickup(100), 11);
        y.setLoad(12, 101);
        Check.same("one", y.autoPickup(100), 1);
        Check.same("without lines", new FeederProtection().autoPickup(100), 0);
    }

    private static void gradeSmallest() {
        Check.sentence(21, "the number of steps becomes the smallest one from 1 to 20");
        FeederProtection x = Edges.star(12);
        for (int relay = 0; relay < 12; relay++) {
            x.setRelay(relay, 100, 0, 20);
        }
        Check.same("no relay behind", x.autoGrade(), 0);
        for (int relay = 0; relay < 12; relay++) {
            Check.same("steps(" + relay + ")", x.steps(relay), 1);
        }
        FeederProtection y = Edges.chain(2);
        y.setRelay(0, 20000, 0, 20);
        Check.same("upstream rests", y.autoGrade(), 0);
        Check.same("upstream rests, steps(0)", y.steps(0), 1);
        for (int steps = 2; steps <= 20; steps++) {
            FeederProtection z = Edges.chain(2);
            z.setMargin(Math.max(0.05, Math.nextUp(0.05 * (steps - 1) - 0.05)));
            Check.same("one less is too few", z.autoGrade(), 0);
            Check.same("steps(0)", z.steps(0), steps);
        }
    }

    private static void gradeTwentyIsEnough() {
        Check.sentence(21, "the number of steps becomes the smallest one from 1 to 20");
        FeederProtection x = Edges.chain(2);
        x.setMargin(0.05 * 20 - 0.05);
        Check.same("twenty are just enough", x.autoGrade(), 0);
        Check.same("steps(0)", x.steps(0), 20);
        Check.same("violationCount()", x.violationCount(), 0);
    }

    private static void gradeTwentyIsTooFew() {
        Check.sentence(21, "If there is no such number, it becomes 20.");
        FeederProtection x = Edges.chain(2);
        x.setMargin(Math.nextUp(0.05 * 20 - 0.05));
        Check.same("twenty are just too few", x.autoGrade(), 1);
        Check.same("steps(0)", x.steps(0), 20);
        Check.same("steps(1)", x.steps(1), 1);
        Check.same("violationCount()", x.violationCount(), 1);
        FeederProtection y = Edges.chain(2);
        y.setRelay(1, 20000, 0, 9);
        Check.same("the relay behind rests", y.autoGrade(), 1);
        Check.same("then steps(0)", y.steps(0), 20);
        FeederProtection z = Edges.chain(2);
        z.setInstantaneous(0, 1);
        Check.same("no number of steps counts", z.autoGrade(), 1);
        Check.same("and steps(0)", z.steps(0), 20);
    }

    private static void gradeAtLeastTheMargin() {
        Check.sentence(21, "the margin of d for 0 percent and the margin of d for 100 percent are "
            + "at least the required margin.");
        for (int steps = 2; steps <= 20; steps++) {
            FeederProtection x = Edges.chain(2);
            x.setMargin(0.05 * steps - 0.05);
            Check.same("the very margin", x.autoGrade(), 0);
            Check.same("steps(0)", x.steps(0), steps);
        }
    }

    /** At either end there are steps that are enough there and too few at the other end. */
    private static void gradeAtBothEnds() {
        Check.sentence(21, "the margin of d for 0 percent and the margin of d for 100 percent are "
            + "at least the required margin.");
        FeederProtection far = Edges.chain(2);
        far.setInstantaneous(1, 5000);
        far.setMargin(0.05 * 7 - 0.04);
        far.setRelay(0, 100, 0, 7);
        Check.same("0 percent: seven are enough", far.margin(1, 0), 0.05 * 7 - 0.04);
        Check.same("100 percent: seven are too few", far.margin(1, 100), 0.05 * 7 - 0.05);
        Check.same("100 percent decides", far.autoGrade(), 0);
        Check.same("100 percent decides, steps(0)", far.steps(0), 8);
        FeederProtection near = Edges.chain(2);
        near.setRelay(0, 500, FeederProtection.VERY_INVERSE, 4);
        Check.same("0 percent: four are too few", near.margin(1, 0) < 0.3, true);
        Check.same("100 percent: four are enough", near.margin(1, 100) >= 0.3, true);
        Check.same("0 percent decides", near.autoGrade(), 0);
        Check.same("0 percent decides, steps(0)", near.steps(0), 5);
    }

    private static void gradeNotBetween() {
        Check.sentence(21, "the margin of d for 0 percent and the margin of d for 100 percent are "
            + "at least the required margin.");
        FeederProtection x = badInTheMiddle();
        Check.same("between the ends does not count", x.autoGrade(), 0);
        Check.same("steps(0)", x.steps(0), 7);
        Check.same("steps(1)", x.steps(1), 1);
    }

    private static void gradeOnlyItsOwn() {
        Check.sentence(21, "for each relay d whose upstream relay is this one");
        FeederProtection x = new FeederProtection();
        x.addLine(0, 1.0);
        x.addLine(0, 1.0);
        x.addLine(2, 1.0);
        x.setRelay(2, 20000, 0, 20);
        Check.same("relay 1 alone has a relay that rests behind it", x.autoGrade(), 1);
        Check.same("steps(0)", x.steps(0), 1);
        Check.same("steps(1)", x.steps(1), 20);
        FeederProtection y = new FeederProtection();
        y.addLine(0, 1.0);
        for (int line = 1; line < 12; line++) {
            y.addLine(1, 1.0);
        }
        y.setRelay(6, 100, FeederProtection.LONG_INVERSE, 1);
        double slowest = 0.05 * 120.0 / (10000.0 / 3.0 / 100 - 1.0);
        int steps = 1;
        while (0.05 * steps - slowest < 0.3) {
            steps++;
        }
        Check.same("eleven behind one", y.autoGrade(), 0);
        Check.same("the slowest of all decides", y.steps(0), steps);
    }

    private static void gradeFromTheGreatest() {
        Check.sentence(21, "The steps of relays with greater numbers are the new ones already.");
        FeederProtection x = Edges.chain(3);
        x.setMargin(0.05);
        x.setRelay(2, 100, 0, 20);
        x.setRelay(1, 100, 0, 20);
        Check.same("the old steps would be too many", x.autoGrade(), 0);
        Check.same("steps(2)", x.steps(2), 1);
        Check.same("steps(1)", x.steps(1), 2);
        Check.same("steps(0)", x.steps(0), 0.05 * 3 - 0.05 * 2 < 0.05 ? 4 : 3);
    }

    private static void gradeCountsFailures() {
        Check.sentence(21, "Returns the number of relays for which there was no such number of "
            + "steps.");
        Check.same("without lines", new FeederProtection().autoGrade(), 0);
        FeederProtection x = Edges.chain(12);
        x.setMargin(5.0);
        Check.same("all but the last one", x.autoGrade(), 11);
        for (int relay = 0; relay < 11; relay++) {
            Check.same("steps(" + relay + ")", x.steps(relay), 20);
        }
        Check.same("steps(11)", x.steps(11), 1);
        Check.same("again", x.autoGrade(), 11);
    }
}
