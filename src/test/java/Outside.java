/** Calls with a number just or far outside of what there is or may be: on an empty fountain, a busy one, a full one. */
final class Outside {
    /** A call with a number. */
    interface Call {
        int on(RingReadings x, int number);
    }

    private Outside() {
    }

    /** What lies just outside of a range, and far outside. */
    static int[] numbers(int lowest, int highest) {
        return new int[] {lowest - 1, highest + 1, Integer.MIN_VALUE, Integer.MAX_VALUE};
    }

    static void places(String call, Call it) {
        numbered(call, it, 6, 24);
    }

    static void words(String call, Call it) {
        numbered(call, it, 3, 10);
    }

    static void segments(String call, Call it) {
        numbered(call, it, 2, 12);
    }

    static void walkers(String call, Call it) {
        numbered(call, it, 2, 4);
    }

    static void directions(String call, Call it) {
        anywhere(call, Check.INDEX, 0, 1, it);
    }

    /** What is numbered from 0 and does not exist: an empty fountain has none. */
    private static void numbered(String call, Call it, int ofBusy, int ofFull) {
        for (int number : Outside.numbers(0, -1)) {
            Check.refuses(RingReadings::new, call + " with " + number + " of none", Check.INDEX, x -> it.on(x, number));
        }
        for (int number : Outside.numbers(0, ofBusy - 1)) {
            Check.refuses(Check::busy, call + " with " + number + " of " + ofBusy, Check.INDEX, x -> it.on(x, number));
        }
        for (int number : Outside.numbers(0, ofFull - 1)) {
            Check.refuses(Check::full, call + " with " + number + " of " + ofFull, Check.INDEX, x -> it.on(x, number));
        }
    }

    /** An argument outside of its range, where there is something. */
    static void range(String call, int lowest, int highest, Call it) {
        for (int number : Outside.numbers(lowest, highest)) {
            Check.refuses(Check::busy, call + " with " + number, Check.ARGUMENT, x -> it.on(x, number));
            Check.refuses(Check::full, call + " with " + number + " of the full", Check.ARGUMENT, x -> it.on(x, number));
        }
    }

    /** The same, also where there is nothing. */
    static void anywhere(String call, Class<? extends RuntimeException> what, int lowest, int highest, Call it) {
        for (int number : Outside.numbers(lowest, highest)) {
            Check.refuses(RingReadings::new, call + " with " + number + " of the empty", what, x -> it.on(x, number));
            Check.refuses(Check::busy, call + " with " + number, what, x -> it.on(x, number));
            Check.refuses(Check::full, call + " with " + number + " of the full", what, x -> it.on(x, number));
        }
    }
}
