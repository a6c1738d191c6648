/** Promises 1 to 4: a new object, append, clearText, errorPosition; and the constant. */
public final class TextTest {
    public static void main(String[] args) {
        newObject();
        appending();
        clearing();
        errorsAsRing();
        errorsAsWord();
        Check.finish();
    }

    private static void newObject() {
        RingReadings x = new RingReadings();
        Check.due("NONE", RingReadings.NONE, -1);
        Check.dueRow("about of a new object", x::about, 0, 0, 0, 0, 0, 0, -1, 0, 1);
        for (int direction = 0; direction < 2; direction++) {
            int d = direction;
            Check.dueRow("reading of a new object", what -> x.reading(d, what), 0, 0, 0, 0);
            Check.dueRow("bestDivider of a new object", what -> x.bestDivider(d, what), -1, -1);
        }
        Check.due("bestDirection of a new object", x.bestDirection(), 0);
        Check.due("clearText of a new object", x.clearText(), 0);
        Check.refused(x, "undo of a new object", Check.STATE, x::undo);
        Check.refused(x, "at(0) of a new object", Check.INDEX, () -> x.at(0));
        Check.refused(x, "letter(0, 0) of a new object", Check.INDEX, () -> x.letter(0, 0));
        Check.refused(x, "walker(0, 0) of a new object", Check.INDEX, () -> x.walker(0, 0));
        Check.refused(x, "restore(0) of a new object", Check.STATE, () -> x.restore(0));
        Check.refused(x, "restore(1) of a new object", Check.STATE, () -> x.restore(1));
    }

    private static void appending() {
        RingReadings x = new RingReadings();
        Check.refused(x, "append(-1)", Check.ARGUMENT, () -> x.append(-1));
        Check.refused(x, "append(256)", Check.ARGUMENT, () -> x.append(256));
        Check.refused(x, "append(65536 + 97)", Check.ARGUMENT, () -> x.append(65536 + 97));
        Check.due("append(0)", x.append(0), 1);
        Check.due("append(255)", x.append(255), 2);
        for (int length = 3; length <= 40; length++) {
            Check.due("append(97)", x.append(97), length);
        }
        Check.refused(x, "a 41st append", Check.STATE, () -> x.append(97));
        Check.refused(x, "a 41st append of no character", Check.ARGUMENT, () -> x.append(256));
        Check.due("clearText of 40", x.clearText(), 40);
    }

    private static void clearing() {
        RingReadings x = Check.write(new RingReadings(), "abc");
        Check.due("clearText", x.clearText(), 3);
        Check.due("clearText again", x.clearText(), 0);
        Check.due("append behind clearText", x.append('d'), 1);
        Check.due("errorPosition behind clearText", x.errorPosition(true), -1);
    }

    private static void errorsAsRing() {
        error("", false, 0);
        error("a", false, -1);
        error(".", false, -1);
        error("?", false, -1);
        error("abcdefgh.?", false, -1);
        error("i", false, 0);
        error("`", false, 0);
        error("A", false, 0);
        error("ab cd", false, 2);
        error("a\u0000", false, 1);
        error("ab>", false, 2);
        error("ab/", false, 2);
        error("abcdefghabcdefghabcdefgh", false, -1);
        error("abcdefghabcdefghabcdefgha", false, 24);
        error("abcdefghabcdefghabcdefghz", false, 24);
        error("abcdefghabcdefghabcdefgzzz", false, 23);
    }

    private static void errorsAsWord() {
        error("", true, 0);
        error("a", true, -1);
        error("abcdef", true, -1);
        error("gh", true, -1);
        error("abcdefg", true, 6);
        error("abcdefz", true, 6);
        error("abcde.g", true, 5);
        error("?", true, 0);
        error("a.", true, 1);
        error("ai", true, 1);
        error("h`", true, 1);
    }

    private static void error(String text, boolean word, int want) {
        RingReadings x = Check.write(new RingReadings(), text);
        Check.due("errorPosition(" + word + ") of '" + text + "'", x.errorPosition(word), want);
        Check.due("the text behind errorPosition", x.clearText(), text.length());
    }
}
