/** Counts what is not as due; a test ends with exit code 1 if there was anything. */
final class Check {
    interface Call {
        long answer();
    }

    private static int wrong = 0;

    private Check() {
    }

    static void due(String call, long got, long want) {
        if (got != want) {
            report(call, String.valueOf(got), String.valueOf(want));
        }
    }

    static void dueDouble(String call, double got, double want) {
        if (Double.compare(got, want) != 0) {
            report(call, String.valueOf(got), String.valueOf(want));
        }
    }

    static void index(String call, Call made) {
        due(call, made, "IndexOutOfBoundsException");
    }

    static void argument(String call, Call made) {
        due(call, made, "IllegalArgumentException");
    }

    static void state(String call, Call made) {
        due(call, made, "IllegalStateException");
    }

    static void due(String call, Call made, String want) {
        String got = outcome(made);
        if (!got.equals(want)) {
            report(call, got, want);
        }
    }

    /** The answer as a text, or the plain name of what is thrown. */
    static String outcome(Call made) {
        try {
            return String.valueOf(made.answer());
        } catch (Throwable thrown) {
            return thrown.getClass().getSimpleName();
        }
    }

    static void report(String call, String got, String want) {
        wrong++;
        if (wrong <= 50) {
            System.out.println(call + " answered " + got + ", due is " + want);
        }
    }

    static void end(String test) {
        System.out.println(wrong == 0 ? test + ": all as due" : test + ": " + wrong + " not as due");
        if (wrong != 0) {
            System.exit(1);
        }
    }
}
