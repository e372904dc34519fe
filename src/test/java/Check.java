/** Counts and prints the answers that are not as due. */
final class Check {
    /** One call of the face. */
    interface Call {
        Object answer();
    }

    private static int checks = 0;
    private static int wrong = 0;

    private Check() {
    }

    /** The answer of a call, or throws.X if it throws X. */
    static String answerOf(Call call) {
        try {
            return String.valueOf(call.answer());
        } catch (RuntimeException e) {
            return thrown(e);
        }
    }

    /** An exception by its name; one that the machine or its library throws by itself is never due. */
    static String thrown(Throwable e) {
        StackTraceElement[] trace = e.getStackTrace();
        boolean isOfLibrary = trace.length > 0 && trace[0].getClassName().contains(".");
        boolean isOfDivision = "/ by zero".equals(e.getMessage());
        return (isOfLibrary || isOfDivision ? "machine." : "throws.") + e.getClass().getSimpleName();
    }

    /** The ints next to a range, and the least and the greatest int. */
    static int[] outside(int least, int greatest) {
        return new int[] {Integer.MIN_VALUE, least - 1, greatest + 1, Integer.MAX_VALUE};
    }

    static void due(Object want, String what, Call call) {
        String got = answerOf(call);
        checks++;
        if (!got.equals(String.valueOf(want))) {
            wrong++;
            System.out.println(what + " answered " + got + ", due is " + want);
        }
    }

    static void noSuch(String what, Call call) {
        due("throws.NoSuchElementException", what, call);
    }

    static void badArgument(String what, Call call) {
        due("throws.IllegalArgumentException", what, call);
    }

    static void badState(String what, Call call) {
        due("throws.IllegalStateException", what, call);
    }

    static void badIndex(String what, Call call) {
        due("throws.IndexOutOfBoundsException", what, call);
    }

    static void unsupported(String what, Call call) {
        due("throws.UnsupportedOperationException", what, call);
    }

    static void badDivision(String what, Call call) {
        due("throws.ArithmeticException", what, call);
    }

    /** Ends the program, with the exit code 1 if an answer was wrong. */
    static void end() {
        System.out.println(checks + " checks, " + wrong + " wrong");
        System.exit(wrong == 0 ? 0 : 1);
    }
}
