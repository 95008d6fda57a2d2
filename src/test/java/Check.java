/** Counts what is not as due; a test ends with exit code 1 if there was anything. */
final class Check {
    static final String INDEX = "IndexOutOfBoundsException";
    static final String ARGUMENT = "IllegalArgumentException";
    static final String STATE = "IllegalStateException";

    interface Call {
        long answer();
    }

    interface CallWith {
        long answer(int value);
    }

    private static int wrong = 0;
    private static String sentence = "";

    private Check() {
    }

    /** Names the sentence of the document that the next checks belong to. */
    static void under(String part, String quote) {
        sentence = part + ", \"" + quote + "\": ";
    }

    static void due(String call, long got, long want) {
        if (got != want) {
            report(call, String.valueOf(got), String.valueOf(want));
        }
    }

    static void dueDouble(String call, double got, double want) {
        if (Double.compare(got, want) != 0) {
            report(call, String.valueOf(got), String.valueOf(want));
        }
    }

    static void same(String what, String got, String want) {
        if (!got.equals(want)) {
            report(what, got, want);
        }
    }

    static void index(String call, Call made) {
        due(call, made, INDEX);
    }

    static void argument(String call, Call made) {
        due(call, made, ARGUMENT);
    }

    static void state(String call, Call made) {
        due(call, made, STATE);
    }

    static void due(String call, Call made, String want) {
        same(call, outcome(made), want);
    }

    /** The call is not refused, whatever it answers. */
    static void allowed(String call, Call made) {
        String got = outcome(made);
        if (got.endsWith("Exception") || got.endsWith("Error")) {
            report(call, got, "a number");
        }
    }

    /** The values from low to high are allowed, those beside them and far away from them are not. */
    static void range(String what, int low, int high, String refusal, CallWith made) {
        int[] values = {low, low + (high - low) / 2, high, low - 1, high + 1, low - 2, high + 2, -high - 1,
            low + 256, low + 65536, low - 65536, low + 16777216, Integer.MAX_VALUE, Integer.MIN_VALUE};
        for (int value : values) {
            if (value >= low && value <= high) {
                allowed(what + " " + value, () -> made.answer(value));
            } else {
                due(what + " " + value, () -> made.answer(value), refusal);
            }
        }
    }

    /** The answer as a text, or the plain name of what is thrown. */
    static String outcome(Call made) {
        try {
            return String.valueOf(made.answer());
        } catch (Throwable thrown) {
            return thrown.getClass().getSimpleName();
        }
    }

    static void report(String call, String got, String want) {
        wrong++;
        if (wrong <= 50) {
            System.out.println(sentence + call + " answered " + got + ", due is " + want);
        }
    }

    static void end(String test) {
        System.out.println(wrong == 0 ? test + ": all as due" : test + ": " + wrong + " not as due");
        if (wrong != 0) {
            System.exit(1);
        }
    }
}
