/** Calls that are refused: each throws what is due, and changes nothing that any call tells behind it. */
final class Refusal {
    interface Maker {
        MicrostoreWorks make();
    }

    interface Use {
        void on(MicrostoreWorks works);
    }

    interface UseOf {
        void on(MicrostoreWorks works, int value);
    }

    static final Class<IndexOutOfBoundsException> INDEX = IndexOutOfBoundsException.class;
    static final Class<IllegalArgumentException> ARGUMENT = IllegalArgumentException.class;
    static final Class<UnsupportedOperationException> UNSUPPORTED = UnsupportedOperationException.class;
    static final Class<java.util.NoSuchElementException> NO_SUCH = java.util.NoSuchElementException.class;
    static final Class<IllegalStateException> STATE = IllegalStateException.class;
    static final Class<ArithmeticException> ARITHMETIC = ArithmeticException.class;

    /** An object on which the call was made answers all as one does on which it was not, in 512 calls each. */
    static void check(String what, Maker maker, Class<? extends RuntimeException> due, Use call) {
        MicrostoreWorks seen = maker.make();
        Check.same(what, Check.nameOfThrown(() -> call.on(seen)), due.getSimpleName());
        Check.same(what + " changes nothing that is seen", Look.at(seen), Look.at(maker.make()));
        MicrostoreWorks used = maker.make();
        Check.same(what, Check.nameOfThrown(() -> call.on(used)), due.getSimpleName());
        Check.same(what + " changes nothing that shows later", Look.into(used), Look.into(maker.make()));
    }

    static void takes(String what, Maker maker, Use call) {
        MicrostoreWorks works = maker.make();
        Check.same(what, Check.nameOfThrown(() -> call.on(works)), "nothing");
    }

    /** The call takes each number from the least to the most, and refuses those beside them and those far out. */
    static void range(Maker maker, int least, int most, Class<? extends RuntimeException> due, UseOf call) {
        for (int value = least; value <= most; value++) {
            int taken = value;
            takes("" + taken, maker, works -> call.on(works, taken));
        }
        outside(maker, least, most, due, call);
    }

    static void outside(Maker maker, int least, int most, Class<? extends RuntimeException> due, UseOf call) {
        int[] values = {least - 1, most + 1, most + 256, least - 256, 65536 + least, Integer.MIN_VALUE,
            Integer.MAX_VALUE};
        for (int value : values) {
            check("" + value, maker, due, works -> call.on(works, value));
        }
    }
}
