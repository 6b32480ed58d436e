/** Counts the answers that are not as due; used by the tests beside it. */
final class Check {
    private int wrong;

    void same(String call, long got, long due) {
        if (got != due) {
            tell(call + " answered " + got + ", due is " + due);
        }
    }

    void same(String call, double got, double due) {
        if (Double.compare(got, due) != 0) {
            tell(call + " answered " + got + ", due is " + due);
        }
    }

    void same(String call, Object got, Object due) {
        if (!got.equals(due)) {
            tell(call + " answered " + got + ", due is " + due);
        }
    }

    void yes(String what, boolean holds) {
        if (!holds) {
            tell(what + " does not hold");
        }
    }

    /** The call throws just this exception, and changes nothing. */
    void refused(Bookinghouse x, String call, Class<? extends RuntimeException> due, Runnable made) {
        long before = x.checksum();
        Object got = "nothing";
        try {
            made.run();
        } catch (RuntimeException e) {
            got = e.getClass();
        }
        if (got != due) {
            tell(call + " threw " + got + ", due is " + due);
        }
        same("checksum() behind " + call, x.checksum(), before);
    }

    void end() {
        System.out.println(wrong == 0 ? "all answers are as due" : wrong + " answers are not as due");
        if (wrong != 0) {
            System.exit(1);
        }
    }

    private void tell(String text) {
        wrong++;
        if (wrong <= 40) {
            System.out.println(text);
        }
    }
}
