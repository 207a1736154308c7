/** What the tests share: each prints what is wrong and ends with exit code 1 if something was. */
final class Check {
    /** A call that may throw. */
    interface Call {
        void run();
    }

    private static int checks = 0;
    private static int wrong = 0;
    /** The sentence of the document that the checks from here on hold, empty if none was named. */
    private static String sentence = "";

    private Check() {
    }

    /** The checks from here on hold this sentence, which stands in the document as it is here. */
    static void sentence(int promise, String words) {
        sentence = "[promise " + promise + ": " + words + "] ";
        checks++;
        if (!Document.says(promise, words)) {
            fail("the document does not say this");
        }
    }

    static void same(String what, long got, long want) {
        checks++;
        if (got != want) {
            fail(what + " answered " + got + ", due is " + want);
        }
    }

    /** Exact: the document fixes the order of the arithmetic. */
    static void same(String what, double got, double want) {
        checks++;
        if (Double.doubleToLongBits(got) != Double.doubleToLongBits(want)) {
            fail(what + " answered " + got + ", due is " + want);
        }
    }

    static void same(String what, boolean got, boolean want) {
        same(what, got ? 1L : 0L, want ? 1L : 0L);
    }

    static void same(String what, String got, String want) {
        checks++;
        if (!want.equals(got)) {
            fail(what + " answered " + got + ", due is " + want);
        }
    }

    /** The call throws IllegalArgumentException and changes nothing. */
    static void illegal(String what, FeederProtection x, Call call) {
        refused(what, x, IllegalArgumentException.class, call);
    }

    /** The call throws just this exception and changes nothing. */
    static void refused(String what, FeederProtection x, Class<?> kind, Call call) {
        long before = x.digest();
        same(what + " throws", thrownBy(call), kind.getName());
        same(what + " throws and changes nothing: digest()", x.digest(), before);
    }

    static String thrownBy(Call call) {
        try {
            call.run();
        } catch (RuntimeException e) {
            return e.getClass().getName();
        }
        return "nothing";
    }

    static void fail(String message) {
        wrong++;
        if (wrong <= 50) {
            System.out.println(sentence + message);
        }
    }

    static void finish(String test) {
        System.out.println(test + ": " + checks + " checks, " + wrong + " wrong");
        if (wrong != 0 || checks == 0) {
            System.exit(1);
        }
    }
}
