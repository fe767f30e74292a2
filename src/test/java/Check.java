/** Counts the answers that are not as due, and tells them. */
final class Check {
    /** A call whose exception, if any, is looked at. */
    interface Call {
        Object answer();
    }

    private static int wrong = 0;
    private static int looked = 0;

    private Check() {
    }

    static void due(String what, Object got, Object want) {
        looked++;
        if (!want.equals(got)) {
            wrong++;
            if (wrong <= 40) {
                System.out.println(what + " answered " + got + ", due is " + want);
            }
        }
    }

    /** An answer, or the very class that was thrown: what the machine throws is a class below. */
    static Object of(Call call) {
        try {
            return call.answer();
        } catch (RuntimeException e) {
            return e.getClass();
        }
    }

    static void noContext(String what, Call call) {
        due(what, of(call), IndexOutOfBoundsException.class);
    }

    static void notNow(String what, Call call) {
        due(what, of(call), IllegalStateException.class);
    }

    static void noNumber(String what, Call call) {
        due(what, of(call), IllegalArgumentException.class);
    }

    static void end() {
        if (looked == 0) {
            System.out.println("nothing was looked at");
            System.exit(1);
        }
        System.out.println(wrong == 0 ? looked + " answers are as due" : wrong + " answers are not as due");
        if (wrong != 0) {
            System.exit(1);
        }
    }
}
