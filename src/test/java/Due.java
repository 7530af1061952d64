/** Counts and prints the calls whose answer is not the one that is due. */
final class Due {
    interface Call {
        void run();
    }

    private int wrong;

    void same(String call, long got, long want) {
        if (got != want) {
            tell(call + " answered " + got + ", due is " + want);
        }
    }

    /** An array index that the machine refuses would be a subclass, so the class has to be the very one. */
    void refused(Class<? extends RuntimeException> want, String call, Call run) {
        try {
            run.run();
        } catch (RuntimeException e) {
            if (e.getClass() != want) {
                tell(call + " threw " + e.getClass().getName() + ", due is " + want.getName());
            }
            return;
        }
        tell(call + " threw nothing, due is " + want.getName());
    }

    void unknown(String call, Call run) {
        refused(IllegalArgumentException.class, call, run);
    }

    void outside(String call, Call run) {
        refused(IndexOutOfBoundsException.class, call, run);
    }

    void wrongState(String call, Call run) {
        refused(IllegalStateException.class, call, run);
    }

    void noRoom(String call, Call run) {
        refused(UnsupportedOperationException.class, call, run);
    }

    void tell(String text) {
        wrong++;
        System.out.println(text);
    }

    void end() {
        System.out.println(wrong == 0 ? "all answers are as due" : wrong + " answers are not as due");
        if (wrong != 0) {
            System.exit(1);
        }
    }
}
