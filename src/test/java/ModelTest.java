import java.util.Random;

/**
 * Random runs, on the class and on the model side by side: the same answers, the same exceptions
 * and, after each step, the same digest. A run keeps within the document's 512 calls. The seeds
 * are fixed, so every run of the test is the same one.
 */
public final class ModelTest {
    private static final int RUNS = 3000;

    private final Random random;
    private final FeederProtection x = new FeederProtection();
    private final Model model = new Model();
    /** How often, of a hundred, an argument is allowed to be a wrong one. */
    private final int wrongPercent;
    /** How often, of a hundred, a line continues the last one, so that paths get long. */
    private final int chainPercent;

    private ModelTest(int seed) {
        random = new Random(seed);
        wrongPercent = seed % 4 == 0 ? 25 : 2;
        chainPercent = seed % 3 * 50;
    }

    public static void main(String[] args) {
        int sixty = 0;
        int rounds = 0;
        int equal = 0;
        int pairs = 0;
        int never = 0;
        for (int seed = 0; seed < RUNS; seed++) {
            ModelTest run = new ModelTest(seed);
            run.play();
            sixty += run.model.sixtyEvents;
            rounds += run.model.manyRounds;
            equal += run.model.equalTrips;
            pairs += run.model.pairsOpened;
            never += run.model.neverCleared;
        }
        Check.same("some events were beyond sixty", sixty > 100, true);
        Check.same("some simulations had many rounds", rounds > 1000, true);
        Check.same("some trip times were equal", equal > 1000, true);
        Check.same("some breakers opened together", pairs > 1000, true);
        Check.same("some faults were not cleared", never > 1000, true);
        Check.finish("ModelTest");
    }

    private void play() {
        if (chainPercent == 100 && random.nextBoolean()) {
            longStuckChain();
        }
        int build = 3 + random.nextInt(10);
        for (int call = 0; call < 160; call++) {
            int kind = call < build ? 1 : random.nextInt(40);
            step(kind);
            Check.same("digest()", x.digest(), model.digest());
        }
    }

    /** Long simulations: many breakers are stuck, and those that are not reclose. */
    private void longStuckChain() {
        for (int i = 0; i < 12; i++) {
            int line = i;
            boolean stuck = random.nextInt(6) > 0;
            both("addLine", () -> x.addLine(line, 1.0), () -> model.addLine(line, 1.0));
            both("setStuck", () -> x.setStuck(line, stuck) ? 1 : 0,
                () -> model.setStuck(line, stuck) ? 1 : 0);
            both("setShots", () -> x.setShots(line, 3), () -> model.setShots(line, 3));
        }
        both("simulate", () -> x.simulate(11, 50, 8000.0), () -> model.simulate(11, 50, 8000.0));
    }

    /** A double answer goes as its bits, a thrown exception as its name. */
    interface Answer {
        long get();
    }

    private static String outcome(Answer answer) {
        try {
            return Long.toString(answer.get());
        } catch (IllegalArgumentException | IllegalStateException | IndexOutOfBoundsException e) {
            return e.getClass().getSimpleName();
        }
    }

    private static void both(String what, Answer got, Answer due) {
        Check.same(what, outcome(got), outcome(due));
    }

    private static long bits(double value) {
        return Double.doubleToLongBits(value);
    }

    private boolean wrong() {
        return random.nextInt(100) < wrongPercent;
    }

    private int between(int low, int high) {
        if (wrong()) {
            int[] odd = {low - 1, high + 1, low, high, -1, Integer.MIN_VALUE, Integer.MAX_VALUE, 0};
            return odd[random.nextInt(odd.length)];
        }
        return low + random.nextInt(high - low + 1);
    }

    private double between(double low, double high, double... usual) {
        if (wrong()) {
            double[] odd = {Math.nextDown(low), Math.nextUp(high), low, high, Double.NaN, -0.0,
                -1.0, Double.POSITIVE_INFINITY, Double.NEGATIVE_INFINITY, Double.MIN_VALUE};
            return odd[random.nextInt(odd.length)];
        }
        if (random.nextInt(3) > 0) {
            return usual[random.nextInt(usual.length)];
        }
        return low + random.nextDouble() * (high - low);
    }

    private int line() {
        return between(0, Math.max(0, model.w.lines.size() - 1));
    }

    private int percent() {
        int pick = random.nextInt(3);
        return pick == 0 ? 0 : pick == 1 ? 100 : between(0, 100);
    }

    private int bus() {
        int last = model.w.lines.size();
        return random.nextInt(100) < chainPercent ? last : between(0, last);
    }

    private void step(int kind) {
        if (kind < 10) {
            network(kind);
        } else if (kind < 22) {
            relays(kind);
        } else if (kind < 28) {
            grading(kind);
        } else {
            simulation(kind);
        }
    }

    private void network(int kind) {
        int line = line();
        int percent = percent();
        double ohms = between(0.01, 1000.0, 1.0, 8.0, 0.5, 0.1, 4.0);
        switch (kind) {
            case 0 -> {
                double volts = between(100.0, 1000000.0, 10000.0, 20000.0, 6300.0);
                both("setSource", () -> bits(x.setSource(volts, ohms)),
                    () -> bits(model.setSource(volts, ohms)));
            }
            case 1 -> {
                int bus = bus();
                both("addLine", () -> x.addLine(bus, ohms), () -> model.addLine(bus, ohms));
            }
            case 2, 3 -> {
                int bus = between(1, Math.max(1, model.w.lines.size()));
                int load = between(0, 5000);
                both("setLoad", () -> x.setLoad(bus, load), () -> model.setLoad(bus, load));
            }
            case 4 -> both("loadCurrent", () -> x.loadCurrent(line), () -> model.loadCurrent(line));
            default -> both("faultCurrent", () -> bits(x.faultCurrent(line, percent)),
                () -> bits(model.faultCurrent(line, percent)));
        }
    }

    private void relays(int kind) {
        int line = line();
        switch (kind) {
            case 10, 11 -> {
                int pickup = random.nextBoolean() ? 100 : between(1, 20000) / 10 + 1;
                int curve = random.nextBoolean() ? 0 : between(0, 3);
                int steps = random.nextBoolean() ? between(1, 3) : between(1, 20);
                both("setRelay", () -> x.setRelay(line, pickup, curve, steps),
                    () -> model.setRelay(line, pickup, curve, steps));
            }
            case 12 -> {
                int amperes = random.nextBoolean() ? 0 : between(0, 100000) / 50;
                both("setInstantaneous", () -> x.setInstantaneous(line, amperes),
                    () -> model.setInstantaneous(line, amperes));
            }
            case 13, 14 -> {
                int shots = between(0, 3);
                both("setShots", () -> x.setShots(line, shots), () -> model.setShots(line, shots));
            }
            case 15, 16 -> {
                boolean stuck = random.nextInt(3) > 0;
                both("setStuck", () -> x.setStuck(line, stuck) ? 1 : 0,
                    () -> model.setStuck(line, stuck) ? 1 : 0);
            }
            case 17 -> both("pickup", () -> x.pickup(line), () -> model.pickup(line));
            case 18 -> both("steps", () -> x.steps(line), () -> model.steps(line));
            case 19 -> both("upstream", () -> x.upstream(line), () -> model.upstream(line));
            case 20 -> {
                double current = between(0.0, 1000000000.0, 0.0, 100.0, 101.0, 500.0, 3000.0);
                both("operatingTime", () -> bits(x.operatingTime(line, current)),
                    () -> bits(model.operatingTime(line, current)));
            }
            default -> both("sensitivity", () -> bits(x.sensitivity(line)),
                () -> bits(model.sensitivity(line)));
        }
    }

    private void grading(int kind) {
        int line = line();
        int percent = percent();
        switch (kind) {
            case 22 -> {
                double seconds = between(0.05, 5.0, 0.3, 0.05, 0.1, 0.2);
                both("setMargin", () -> bits(x.setMargin(seconds)),
                    () -> bits(model.setMargin(seconds)));
            }
            case 23 -> both("margin", () -> bits(x.margin(line, percent)),
                () -> bits(model.margin(line, percent)));
            case 24 -> both("violationCount", () -> x.violationCount(),
                () -> model.violationCount());
            case 25 -> {
                for (int i = -1; i <= model.violationCount(); i++) {
                    int index = i;
                    both("violation", () -> x.violation(index), () -> model.violation(index));
                }
            }
            case 26 -> {
                int over = between(100, 300);
                both("autoPickup", () -> x.autoPickup(over), () -> model.autoPickup(over));
            }
            default -> both("autoGrade", () -> x.autoGrade(), () -> model.autoGrade());
        }
    }

    private void simulation(int kind) {
        int line = random.nextBoolean() ? line() : model.w.lines.size() - 1;
        int percent = percent();
        switch (kind) {
            case 28, 29, 30, 31 -> {
                double duration = between(0.001, 1000000.0, 0.61, 0.05 + 0.06 + 0.5, 1.5, 8000.0);
                both("closeAll", () -> x.closeAll(), () -> model.closeAll());
                both("simulate", () -> x.simulate(line, percent, duration),
                    () -> model.simulate(line, percent, duration));
            }
            case 32 -> both("simulate", () -> x.simulate(line, percent, 100.0),
                () -> model.simulate(line, percent, 100.0));
            case 33 -> both("eventCount", () -> x.eventCount(), () -> model.eventCount());
            case 34 -> {
                int index = between(0, Math.max(0, model.eventCount() - 1));
                both("event", () -> x.event(index), () -> model.event(index));
                both("eventTime", () -> bits(x.eventTime(index)),
                    () -> bits(model.eventTime(index)));
            }
            case 35 -> both("clearedTime", () -> bits(x.clearedTime()),
                () -> bits(model.clearedTime()));
            case 36 -> {
                both("openBreakers", () -> x.openBreakers(), () -> model.openBreakers());
                both("lostLoad", () -> x.lostLoad(), () -> model.lostLoad());
            }
            case 37 -> both("closeAll", () -> x.closeAll(), () -> model.closeAll());
            default -> both("undo", () -> x.undo(), () -> model.undo());
        }
    }
}
