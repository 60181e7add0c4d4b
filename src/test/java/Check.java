/** Compares answers with those that are due, and counts the wrong ones. */
final class Check {
    private static final int LINES_AT_MOST = 40;
    private static int wrong = 0;

    /** A call whose answer is a number. */
    interface Call {
        long answer();
    }

    /** A look that is asked for one property or the other. */
    interface Look {
        int answer(int what);
    }

    private Check() {
    }

    static void due(String call, long got, long want) {
        if (got != want) {
            tell(call + " answered " + got + ", due is " + want);
        }
    }

    static void due(String call, double got, double want) {
        if (Double.doubleToLongBits(got) != Double.doubleToLongBits(want)) {
            tell(call + " answered " + got + ", due is " + want);
        }
    }

    /** What a look must answer for what from 0 on. */
    static void dueEach(String name, Look look, int... wants) {
        for (int what = 0; what < wants.length; what++) {
            due(name + ", " + what, look.answer(what), wants[what]);
        }
    }

    static void holds(String what, boolean holds) {
        if (!holds) {
            tell(what + " does not hold");
        }
    }

    /** The call must throw just this class, no class below it, and leave the object as it was. */
    static void dueThrows(String name, LeadTimes x, Class<? extends RuntimeException> want, Call call) {
        String before = Looks.all(x);
        dueThrown(name, x, want, call);
        if (!before.equals(Looks.all(x))) {
            tell(name + " changed the object though it threw");
        }
    }

    /** The same with the digest alone, for an object that has few calls left. */
    static void dueThrown(String name, LeadTimes x, Class<? extends RuntimeException> want, Call call) {
        long before = x.digest();
        Class<?> got = null;
        try {
            call.answer();
        } catch (RuntimeException e) {
            got = e.getClass();
        }
        if (got != want) {
            tell(name + " threw " + got + ", due is " + want);
        }
        due(name + ", the digest behind it", x.digest(), before);
    }

    /** The call must answer so, and leave the object as it was. */
    static void dueLook(String name, LeadTimes x, long want, Call call) {
        String before = Looks.all(x);
        due(name, call.answer(), want);
        if (!before.equals(Looks.all(x))) {
            tell(name + " changed the object though it is a look");
        }
    }

    static void tell(String line) {
        wrong++;
        if (wrong <= LINES_AT_MOST) {
            System.out.println(line);
        }
    }

    static int wrong() {
        return wrong;
    }

    /** Ends the program: with exit code 1 if an answer was wrong. */
    static void end() {
        System.out.println(wrong == 0 ? "all answers are as due" : wrong + " answers are not as due");
        System.exit(wrong == 0 ? 0 : 1);
    }
}
