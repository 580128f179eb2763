/** Counts wrong answers of a test and ends the program accordingly. */
final class Check {
    interface Call {
        long answer();
    }

    private static int wrong = 0;
    private static int checked = 0;

    private Check() {
    }

    static void same(String what, Object got, Object due) {
        checked++;
        if (!String.valueOf(got).equals(String.valueOf(due))) {
            wrong++;
            if (wrong <= 40) {
                System.out.println(what + " answered " + got + ", due is " + due);
            }
        }
    }

    static void isTrue(String what, boolean got) {
        same(what, got, true);
    }

    /** The answer as a text, or throws. and the exception's name. */
    static String told(Call call) {
        try {
            return String.valueOf(call.answer());
        } catch (RuntimeException e) {
            return "throws." + e.getClass().getSimpleName();
        }
    }

    static void answers(String what, Call call, long due) {
        same(what, told(call), due);
    }

    static void isOutside(String what, Call call) {
        same(what, told(call), "throws.IndexOutOfBoundsException");
    }

    static void isBadValue(String what, Call call) {
        same(what, told(call), "throws.IllegalArgumentException");
    }

    static void isBadState(String what, Call call) {
        same(what, told(call), "throws.IllegalStateException");
    }

    static void isMissing(String what, Call call) {
        same(what, told(call), "throws.NoSuchElementException");
    }

    static int wrongSoFar() {
        return wrong;
    }

    static void end() {
        System.out.println(checked + " answers checked, " + wrong + " wrong");
        if (wrong != 0 || checked == 0) {
            System.exit(1);
        }
    }
}
