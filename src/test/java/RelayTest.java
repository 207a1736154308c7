/** Promises 7 to 15: the settings of the relays, their operating times and sensitivity. */
public final class RelayTest {
    private static final double INFINITE = Double.POSITIVE_INFINITY;

    public static void main(String[] args) {
        promise7SetRelay();
        promise8SetInstantaneous();
        promise9SetShots();
        promise10SetStuck();
        promises11And12PickupAndSteps();
        promise13Upstream();
        promise14Curves();
        promise14EdgesOfTheCurves();
        promise14Instantaneous();
        promise15Sensitivity();
        Check.finish("RelayTest");
    }

    private static FeederProtection twoLines() {
        FeederProtection x = new FeederProtection();
        x.addLine(0, 8.0);
        x.addLine(1, 8.0);
        return x;
    }

    private static void promise7SetRelay() {
        FeederProtection x = twoLines();
        Check.same("7: first", x.setRelay(1, 200, FeederProtection.LONG_INVERSE, 20), 100);
        Check.same("7: pickup", x.pickup(1), 200);
        Check.same("7: steps", x.steps(1), 20);
        Check.same("7: curve", x.operatingTime(1, 600.0), 0.05 * 20 * 120.0 / 2.0);
        Check.same("7: other relay", x.pickup(0), 100);
        Check.same("7: other relay's steps", x.steps(0), 1);
        Check.same("7: least", x.setRelay(1, 1, FeederProtection.DEFINITE, 1), 200);
        Check.same("7: greatest", x.setRelay(1, 20000, FeederProtection.VERY_INVERSE, 7), 1);
        Check.illegal("7: relay 2", x, () -> x.setRelay(2, 100, 0, 1));
        Check.illegal("7: relay -1", x, () -> x.setRelay(-1, 100, 0, 1));
        Check.illegal("7: pickup 0", x, () -> x.setRelay(0, 0, 0, 1));
        Check.illegal("7: pickup 20001", x, () -> x.setRelay(0, 20001, 0, 1));
        Check.illegal("7: curve -1", x, () -> x.setRelay(0, 100, -1, 1));
        Check.illegal("7: curve 4", x, () -> x.setRelay(0, 100, 4, 1));
        Check.illegal("7: steps 0", x, () -> x.setRelay(0, 100, 0, 0));
        Check.illegal("7: steps 21", x, () -> x.setRelay(0, 100, 0, 21));
        Check.same("7: kept", x.pickup(1), 20000);
    }

    private static void promise8SetInstantaneous() {
        FeederProtection x = twoLines();
        Check.same("8: first", x.setInstantaneous(1, 100000), 0);
        Check.same("8: least", x.setInstantaneous(1, 1), 100000);
        Check.same("8: works", x.operatingTime(1, 1.0), 0.04);
        Check.same("8: other relay", x.operatingTime(0, 101.0), 0.05);
        Check.same("8: none", x.setInstantaneous(1, 0), 1);
        Check.same("8: works no more", x.operatingTime(1, 1.0), INFINITE);
        Check.same("8: none again", x.setInstantaneous(1, 0), 0);
        Check.illegal("8: relay 2", x, () -> x.setInstantaneous(2, 5));
        Check.illegal("8: relay -1", x, () -> x.setInstantaneous(-1, 5));
        Check.illegal("8: -1 amperes", x, () -> x.setInstantaneous(0, -1));
        Check.illegal("8: 100001 amperes", x, () -> x.setInstantaneous(0, 100001));
    }

    private static void promise9SetShots() {
        FeederProtection x = twoLines();
        Check.same("9: first", x.setShots(1, 3), 0);
        Check.same("9: none", x.setShots(1, 0), 3);
        Check.same("9: one", x.setShots(1, 1), 0);
        Check.same("9: other relay", x.setShots(0, 2), 0);
        Check.illegal("9: relay 2", x, () -> x.setShots(2, 1));
        Check.illegal("9: relay -1", x, () -> x.setShots(-1, 1));
        Check.illegal("9: -1 shots", x, () -> x.setShots(0, -1));
        Check.illegal("9: 4 shots", x, () -> x.setShots(0, 4));
        Check.same("9: kept", x.setShots(1, 1), 1);
    }

    private static void promise10SetStuck() {
        FeederProtection x = twoLines();
        Check.same("10: first", x.setStuck(1, true), false);
        Check.same("10: other relay", x.setStuck(0, false), false);
        Check.same("10: again", x.setStuck(1, true), true);
        Check.same("10: free", x.setStuck(1, false), true);
        Check.same("10: free again", x.setStuck(1, false), false);
        Check.illegal("10: relay 2", x, () -> x.setStuck(2, true));
        Check.illegal("10: relay -1", x, () -> x.setStuck(-1, true));
        Check.illegal("10: relay 32", x, () -> x.setStuck(32, true));
    }

    private static void promises11And12PickupAndSteps() {
        FeederProtection x = twoLines();
        x.setRelay(1, 77, 2, 13);
        Check.same("11: pickup(0)", x.pickup(0), 100);
        Check.same("11: pickup(1)", x.pickup(1), 77);
        Check.same("12: steps(0)", x.steps(0), 1);
        Check.same("12: steps(1)", x.steps(1), 13);
        Check.illegal("11: pickup(2)", x, () -> x.pickup(2));
        Check.illegal("11: pickup(-1)", x, () -> x.pickup(-1));
        Check.illegal("12: steps(2)", x, () -> x.steps(2));
        Check.illegal("12: steps(-1)", x, () -> x.steps(-1));
    }

    private static void promise13Upstream() {
        FeederProtection x = twoLines();
        x.addLine(0, 1.0);
        x.addLine(1, 1.0);
        x.addLine(3, 1.0);
        int[] due = {FeederProtection.NONE, 0, FeederProtection.NONE, 0, 2};
        for (int relay = 0; relay < 5; relay++) {
            Check.same("13: upstream(" + relay + ")", x.upstream(relay), due[relay]);
        }
        Check.illegal("13: upstream(5)", x, () -> x.upstream(5));
        Check.illegal("13: upstream(-1)", x, () -> x.upstream(-1));
    }

    private static void promise14Curves() {
        FeederProtection x = twoLines();
        double[] currents = {200.5, 333.0, 601.0, 9876.5, 123456.0, 1000000000.0};
        for (int steps = 1; steps <= 20; steps++) {
            for (double current : currents) {
                double m = current / 200;
                double t = 0.05 * steps;
                double[] due = {t, t * 13.5 / (m - 1.0), t * 80.0 / (m * m - 1.0),
                    t * 120.0 / (m - 1.0)};
                for (int curve = 0; curve < 4; curve++) {
                    x.setRelay(0, 200, curve, steps);
                    String what = "14: curve " + curve + ", steps " + steps + ", " + current;
                    Check.same(what, x.operatingTime(0, current), due[curve]);
                }
            }
        }
    }

    private static void promise14EdgesOfTheCurves() {
        FeederProtection x = twoLines();
        for (int curve = 0; curve < 4; curve++) {
            x.setRelay(0, 200, curve, 3);
            Check.same("14: at the pickup", x.operatingTime(0, 200.0), INFINITE);
            Check.same("14: below the pickup", x.operatingTime(0, 199.0), INFINITE);
            Check.same("14: no current", x.operatingTime(0, 0.0), INFINITE);
            Check.same("14: minus zero", x.operatingTime(0, -0.0), INFINITE);
            Check.same("14: just above", x.operatingTime(0, 200.00000000000006) < INFINITE, true);
        }
        Check.illegal("14: relay 2", x, () -> x.operatingTime(2, 5.0));
        Check.illegal("14: relay -1", x, () -> x.operatingTime(-1, 5.0));
        double[] currents = {-1.0, -Double.MIN_VALUE, 1000000000.0000001, Double.NaN, INFINITE,
            Double.NEGATIVE_INFINITY};
        for (double current : currents) {
            Check.illegal("14: current " + current, x, () -> x.operatingTime(0, current));
        }
    }

    private static void promise14Instantaneous() {
        FeederProtection x = twoLines();
        x.setRelay(0, 200, FeederProtection.VERY_INVERSE, 2);
        x.setInstantaneous(0, 700);
        Check.same("14: above the instantaneous", x.operatingTime(0, 701.0), 0.04);
        Check.same("14: at the instantaneous", x.operatingTime(0, 700.0), 0.04);
        Check.same("14: below it", x.operatingTime(0, 600.0), 0.05 * 2 * 13.5 / 2.0);
        x.setInstantaneous(0, 50);
        Check.same("14: below the pickup, instantaneous", x.operatingTime(0, 60.0), 0.04);
        Check.same("14: below both", x.operatingTime(0, 49.9), INFINITE);
    }

    private static void promise15Sensitivity() {
        FeederProtection x = twoLines();
        x.setRelay(1, 300, 0, 1);
        Check.same("15: relay 0", x.sensitivity(0), 10000.0 / 9.0 * 0.866 / 100);
        Check.same("15: relay 1", x.sensitivity(1), 10000.0 / 17.0 * 0.866 / 300);
        x.setRelay(1, 7, 0, 1);
        Check.same("15: from left to right", x.sensitivity(1), 10000.0 / 17.0 * 0.866 / 7);
        Check.illegal("15: relay 2", x, () -> x.sensitivity(2));
        Check.illegal("15: relay -1", x, () -> x.sensitivity(-1));
    }
}
