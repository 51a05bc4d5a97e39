/** Counts what is not as it is due, and prints it. */
final class Check {
    interface Call {
        void make();
    }

    private int wrong;

    void due(String what, long got, long want) {
        if (got != want) {
            tell(what + " answered " + got + ", due is " + want);
        }
    }

    void due(String what, double got, double want) {
        if (got != want) {
            tell(what + " answered " + got + ", due is " + want);
        }
    }

    void due(String what, boolean got, boolean want) {
        if (got != want) {
            tell(what + " answered " + got + ", due is " + want);
        }
    }

    /** The call throws exactly this kind, and changes nothing. */
    void refused(String what, SnowPumps x, Class<? extends RuntimeException> kind, Call call) {
        long before = x.digest();
        try {
            call.make();
            tell(what + " answered, due is " + kind.getSimpleName());
        } catch (RuntimeException e) {
            if (e.getClass() != kind) {
                tell(what + " threw " + e + ", due is " + kind.getSimpleName());
            }
        }
        unchanged(what, x, before);
    }

    /** The checksum is still the one that was taken before. */
    void unchanged(String what, SnowPumps x, long before) {
        if (x.digest() != before) {
            tell(what + " changed something");
        }
    }

    void tell(String fault) {
        wrong++;
        System.out.println(fault);
    }

    /** The last call of a test: ends the machine with 1 if something was wrong. */
    void finish() {
        if (wrong > 0) {
            System.out.println(wrong + " answers are not as due");
            System.exit(1);
        }
        System.out.println("all answers are as due");
    }
}
