import java.util.ArrayList;
import java.util.List;
import java.util.function.IntSupplier;
import java.util.function.Supplier;
import java.util.function.ToIntFunction;

/** What the tests share: comparing answers, and making fountains. */
final class Check {
    static final Class<IndexOutOfBoundsException> INDEX = IndexOutOfBoundsException.class;
    static final Class<IllegalArgumentException> ARGUMENT = IllegalArgumentException.class;
    static final Class<IllegalStateException> STATE = IllegalStateException.class;

    private static int wrong = 0;
    private static int checked = 0;
    private static String held = "";
    private static final List<String[]> SENTENCES = new ArrayList<>();

    private Check() {
    }

    /** What is checked from here on holds this sentence of a promise; a wrong answer is told with it. */
    static void promise(int number, String words) {
        sentence("Promise " + number, words);
    }

    /** The same for a sentence of another section of the document. */
    static void sentence(String section, String words) {
        SENTENCES.add(new String[] {section, words});
        held = section + ", '" + words + "': ";
    }

    /** The sentences that tests have held so far: the section and the words of each. */
    static List<String[]> sentences() {
        return SENTENCES;
    }

    static void due(String call, long got, long want) {
        due(call, Long.toString(got), Long.toString(want));
    }

    static void due(String call, String got, String want) {
        checked++;
        if (!got.equals(want)) {
            wrong++;
            System.out.println(held + call + " answered " + got + ", due is " + want);
        }
    }

    /** Answers that stand in a row: the call for 0, for 1, and so on. */
    static void dueRow(String call, java.util.function.IntUnaryOperator answer, long... want) {
        for (int i = 0; i < want.length; i++) {
            due(call + " for " + i, answer.applyAsInt(i), want[i]);
        }
    }

    /** The call throws just this, and nothing that can be asked is different then. */
    static void refused(RingReadings x, String call, Class<? extends RuntimeException> what, IntSupplier it) {
        String before = picture(x);
        due(call + " throws", thrown(it), what.getSimpleName());
        due("all there is, behind " + call, picture(x), before);
    }

    /** The call throws just this on a new fountain, and that one is to the last what it is without the call. */
    static void refuses(Supplier<RingReadings> made, String call, Class<? extends RuntimeException> what,
            ToIntFunction<RingReadings> it) {
        RingReadings x = made.get();
        due(call + " throws", thrown(() -> it.applyAsInt(x)), what.getSimpleName());
        due("all to the last, behind " + call, whole(x), whole(made.get()));
    }

    /** The call answers this on a new fountain, and that one is to the last what it is without the call. */
    static void asks(Supplier<RingReadings> made, String call, ToIntFunction<RingReadings> it, int want) {
        RingReadings x = made.get();
        due(call, it.applyAsInt(x), want);
        due("all to the last, behind " + call, whole(x), whole(made.get()));
    }

    /** The exception that a call throws, by name. */
    static String thrown(IntSupplier it) {
        try {
            it.getAsInt();
            return "nothing";
        } catch (RuntimeException e) {
            return e.getClass().getSimpleName();
        }
    }

    static RingReadings write(RingReadings x, String text) {
        x.clearText();
        for (int i = 0; i < text.length(); i++) {
            x.append(text.charAt(i));
        }
        return x;
    }

    static RingReadings fountain(String ring, String... words) {
        RingReadings x = new RingReadings();
        if (!ring.isEmpty()) {
            write(x, ring).ring();
        }
        for (String word : words) {
            write(x, word).addWord();
        }
        return x;
    }

    /** A fountain with something of each kind: slot 0 is saved, slot 1 is not, ten states are remembered. */
    static RingReadings busy() {
        RingReadings x = fountain("ab.c?.", "ab", "ca", "dc");
        x.addWalker(0, 0, 1, 3);
        x.addWalker(5, 1, 2, 2);
        x.go(2);
        x.save(0);
        x.wear(0);
        x.carve(1, 8);
        x.go(1);
        return write(x, "ab");
    }

    /** A fountain with as much of each kind as there can be. */
    static RingReadings full() {
        RingReadings x = fountain(".a.?.b.c.d.e.f.g.h.a.a.a", "a");
        while (x.about(3) < 10) {
            x.addWord();
        }
        x.addWalker(0, 0, 1, 1);
        x.save(0);
        x.addWalker(23, 1, 3, 5);
        x.addWalker(12, 0, 2, 2);
        x.save(1);
        x.addWalker(1, 1, 1, 4);
        for (int steps = 1; steps <= 4; steps++) {
            x.go(steps);
        }
        return write(x, "abcdefghabcdefghabcdefghabcdefghabcdefgh");
    }

    static String signs(RingReadings x) {
        StringBuilder s = new StringBuilder();
        for (int i = 0; i < x.about(0); i++) {
            s.append((char) x.at(i));
        }
        return s.toString();
    }

    static String words(RingReadings x) {
        StringBuilder s = new StringBuilder();
        for (int w = 0; w < x.about(3); w++) {
            s.append(w == 0 ? "" : " ");
            for (int i = 0; x.letter(w, i) != RingReadings.NONE; i++) {
                s.append((char) x.letter(w, i));
            }
        }
        return s.toString();
    }

    static String picture(RingReadings x) {
        StringBuilder s = new StringBuilder(signs(x)).append(" | ").append(words(x)).append(" | steps ").append(x.about(5));
        for (int w = 0; w < x.about(4); w++) {
            s.append(" | ").append(w).append(':');
            for (int what = 0; what <= 6; what++) {
                s.append(' ').append(x.walker(w, what));
            }
            s.append(" all ").append(x.seesAll(w));
        }
        s.append(" | text ").append(x.errorPosition(false)).append(' ').append(x.errorPosition(true));
        return s.toString();
    }

    /** All that can be found out of an object, which is spent then: what is remembered, saved, written in the text, too. */
    static String whole(RingReadings x) {
        StringBuilder s = new StringBuilder(picture(x));
        for (int k = 0; k < 20 && thrown(() -> note(s.append(" | undone "), x.undo())).equals("nothing"); k++) {
            numbers(s, x);
        }
        for (int slot = 0; slot < 2; slot++) {
            int k = slot;
            s.append(" | slot ").append(k).append(' ').append(thrown(() -> note(s, x.restore(k))));
            numbers(s, x);
        }
        s.append(" | ring ").append(thrown(x::ring)).append(' ').append(signs(x));
        return s.append(" | text ").append(x.clearText()).toString();
    }

    private static int note(StringBuilder s, int answer) {
        s.append(answer);
        return answer;
    }

    private static void numbers(StringBuilder s, RingReadings x) {
        for (int what = 0; what <= 5; what++) {
            s.append(' ').append(x.about(what));
        }
    }

    static int undone(RingReadings x) {
        int count = 0;
        while (count < 100) {
            try {
                x.undo();
            } catch (IllegalStateException e) {
                return count;
            }
            count++;
        }
        return count;
    }

    static void finish() {
        System.out.println(wrong == 0 ? checked + " answers, all as due" : wrong + " of " + checked + " answers are not as due");
        if (wrong != 0) {
            System.exit(1);
        }
    }
}
