import java.util.function.IntSupplier;

/** What the tests share: comparing answers, and making fountains. */
final class Check {
    static final Class<IndexOutOfBoundsException> INDEX = IndexOutOfBoundsException.class;
    static final Class<IllegalArgumentException> ARGUMENT = IllegalArgumentException.class;
    static final Class<IllegalStateException> STATE = IllegalStateException.class;

    private static int wrong = 0;
    private static int checked = 0;

    private Check() {
    }

    static void due(String call, long got, long want) {
        checked++;
        if (got != want) {
            wrong++;
            System.out.println(call + " answered " + got + ", due is " + want);
        }
    }

    static void due(String call, String got, String want) {
        checked++;
        if (!got.equals(want)) {
            wrong++;
            System.out.println(call + " answered " + got + ", due is " + want);
        }
    }

    /** Answers that stand in a row: the call for 0, for 1, and so on. */
    static void dueRow(String call, java.util.function.IntUnaryOperator answer, long... want) {
        for (int i = 0; i < want.length; i++) {
            due(call + " for " + i, answer.applyAsInt(i), want[i]);
        }
    }

    /** The call throws just this, and nothing that can be asked is different then. */
    static void refused(RingReadings x, String call, Class<? extends RuntimeException> what, IntSupplier it) {
        String before = picture(x);
        String thrown = "nothing";
        try {
            it.getAsInt();
        } catch (RuntimeException e) {
            thrown = e.getClass().getSimpleName();
        }
        due(call + " throws", thrown, what.getSimpleName());
        due("all there is, behind " + call, picture(x), before);
    }

    static RingReadings write(RingReadings x, String text) {
        x.clearText();
        for (int i = 0; i < text.length(); i++) {
            x.append(text.charAt(i));
        }
        return x;
    }

    static RingReadings fountain(String ring, String... words) {
        RingReadings x = new RingReadings();
        if (!ring.isEmpty()) {
            write(x, ring).ring();
        }
        for (String word : words) {
            write(x, word).addWord();
        }
        return x;
    }

    static String signs(RingReadings x) {
        StringBuilder s = new StringBuilder();
        for (int i = 0; i < x.about(0); i++) {
            s.append((char) x.at(i));
        }
        return s.toString();
    }

    static String words(RingReadings x) {
        StringBuilder s = new StringBuilder();
        for (int w = 0; w < x.about(3); w++) {
            s.append(w == 0 ? "" : " ");
            for (int i = 0; x.letter(w, i) != RingReadings.NONE; i++) {
                s.append((char) x.letter(w, i));
            }
        }
        return s.toString();
    }

    static String picture(RingReadings x) {
        StringBuilder s = new StringBuilder(signs(x)).append(" | ").append(words(x)).append(" | steps ").append(x.about(5));
        for (int w = 0; w < x.about(4); w++) {
            s.append(" | ").append(w).append(':');
            for (int what = 0; what <= 6; what++) {
                s.append(' ').append(x.walker(w, what));
            }
            s.append(" all ").append(x.seesAll(w));
        }
        s.append(" | text ").append(x.errorPosition(false)).append(' ').append(x.errorPosition(true));
        return s.toString();
    }

    static int undone(RingReadings x) {
        int count = 0;
        while (count < 100) {
            try {
                x.undo();
            } catch (IllegalStateException e) {
                return count;
            }
            count++;
        }
        return count;
    }

    static void finish() {
        System.out.println(wrong == 0 ? checked + " answers, all as due" : wrong + " of " + checked + " answers are not as due");
        if (wrong != 0) {
            System.exit(1);
        }
    }
}
