/** The edges that the document names for promises 1 to 4 and in its section on the text: one test for each sentence. */
final class TextEdges {
    private static final String ALL = "abcdefghabcdefghabcdefgh";
    private static final String FORTY = ALL + "abcdefghabcdefgh";

    private TextEdges() {
    }

    static void run() {
        emptyRing();
        emptyBook();
        codes();
        newLength();
        noCode();
        fullText();
        emptying();
        previousLength();
        asWordOrRing();
        errorPosition();
        atMostForty();
        ringsAndWords();
        firstNotAllowed();
    }

    private static RingReadings text(String text) {
        return Check.write(new RingReadings(), text);
    }

    private static RingReadings fullText40() {
        return Check.write(Check.busy(), FORTY);
    }

    private static void emptyRing() {
        Check.promise(1, "Creates a ring without places,");
        RingReadings x = new RingReadings();
        Check.dueRow("about", x::about, 0, 0, 0, 0, 0, 0, -1, 0, 1);
        for (int direction = 0; direction <= 1; direction++) {
            int d = direction;
            Check.dueRow("reading", what -> x.reading(d, what), 0, 0, 0, 0);
            Check.dueRow("bestDivider", what -> x.bestDivider(d, what), -1, -1);
            Check.refuses(RingReadings::new, "segment", Check.INDEX, y -> y.segment(d, 0, 0));
            Check.refuses(RingReadings::new, "addWalker", Check.INDEX, y -> y.addWalker(0, d, 1, 1));
            Check.refuses(RingReadings::new, "ifWorn", Check.INDEX, y -> y.ifWorn(0, d));
            Check.refuses(RingReadings::new, "canBe", Check.INDEX, y -> y.canBe(0, d));
        }
        Check.due("bestDirection", x.bestDirection(), 0);
        Check.refuses(RingReadings::new, "at", Check.INDEX, y -> y.at(0));
        Check.refuses(RingReadings::new, "carve", Check.INDEX, y -> y.carve(0, 0));
        Check.refuses(RingReadings::new, "wear", Check.INDEX, y -> y.wear(0));
        Check.refuses(RingReadings::new, "erase", Check.INDEX, y -> y.erase(0));
        Check.refuses(RingReadings::new, "walker", Check.INDEX, y -> y.walker(0, 0));
        Check.refuses(RingReadings::new, "turn", Check.INDEX, y -> y.turn(0));
        Check.refuses(RingReadings::new, "meet", Check.INDEX, y -> y.meet(0, 1));
        Check.refuses(RingReadings::new, "seesAll", Check.INDEX, y -> y.seesAll(0));
        Check.refuses(RingReadings::new, "undo", Check.STATE, RingReadings::undo);
        Check.refuses(RingReadings::new, "restore(0)", Check.STATE, y -> y.restore(0));
        Check.refuses(RingReadings::new, "restore(1)", Check.STATE, y -> y.restore(1));
        Check.refuses(RingReadings::new, "ring", Check.STATE, RingReadings::ring);
    }

    private static void emptyBook() {
        Check.promise(1, "and an empty book.");
        Check.due("the words", new RingReadings().about(3), 0);
        Check.refuses(RingReadings::new, "letter", Check.INDEX, x -> x.letter(0, 0));
        Check.refuses(RingReadings::new, "find", Check.INDEX, x -> x.find(0, 0, 0));
        Check.refuses(RingReadings::new, "removeWord", Check.INDEX, x -> x.removeWord(0));
        Check.refuses(RingReadings::new, "addWord", Check.STATE, RingReadings::addWord);
        Check.due("the first word", text("a").addWord(), 0);
    }

    private static void codes() {
        Check.promise(2, "`c`: character code, 0 to 255");
        for (int c = 0; c <= 255; c++) {
            RingReadings x = new RingReadings();
            Check.due("append(" + c + ")", x.append(c), 1);
            boolean letter = c >= 'a' && c <= 'h';
            Check.due("the text with the code " + c + " as a word", x.errorPosition(true), letter ? -1 : 0);
            Check.due("the text with the code " + c + " as a ring", x.errorPosition(false), letter || c == '.' || c == '?' ? -1 : 0);
        }
    }

    private static void newLength() {
        Check.promise(2, "Returns the new length of the text.");
        RingReadings x = new RingReadings();
        for (int length = 1; length <= 40; length++) {
            Check.due("append(97)", x.append(97), length);
        }
        x.clearText();
        Check.due("append(97) behind clearText()", x.append(97), 1);
    }

    private static void noCode() {
        Check.promise(2, "Throws `IllegalArgumentException` if c is out of range");
        Outside.anywhere("append", Check.ARGUMENT, 0, 255, (x, c) -> x.append(c));
        Check.refuses(Check::busy, "append(97 + 256)", Check.ARGUMENT, x -> x.append(97 + 256));
        Check.refuses(Check::busy, "append(97 + 65536)", Check.ARGUMENT, x -> x.append(97 + 65536));
    }

    private static void fullText() {
        Check.promise(2, "Throws `IllegalStateException` if the text already has 40 characters");
        Check.due("the 40th", text(FORTY.substring(1)).append('a'), 40);
        Check.refuses(TextEdges::fullText40, "append(97), the 41st", Check.STATE, x -> x.append(97));
        Check.refuses(TextEdges::fullText40, "append(0), the 41st", Check.STATE, x -> x.append(0));
        Check.refuses(TextEdges::fullText40, "append(255), the 41st", Check.STATE, x -> x.append(255));
        RingReadings x = text(FORTY);
        Check.refused(x, "the 41st", Check.STATE, () -> x.append(97));
        Check.refused(x, "the 41st again", Check.STATE, () -> x.append(97));
        Check.due("clearText() behind it", x.clearText(), 40);
    }

    private static void emptying() {
        Check.promise(3, "Empties the text buffer.");
        for (int length : new int[] {0, 1, 39, 40}) {
            RingReadings x = text(FORTY.substring(0, length));
            x.clearText();
            Check.due("the error as a ring", x.errorPosition(false), 0);
            Check.due("the error as a word", x.errorPosition(true), 0);
            Check.refused(x, "ring() without a text", Check.STATE, x::ring);
            Check.due("the next character", x.append('h'), 1);
            Check.due("the next text is a word", x.errorPosition(true), -1);
            Check.due("the next text as a ring", x.ring(), 1);
            Check.due("the ring", x.at(0), 'h');
        }
    }

    private static void previousLength() {
        Check.promise(3, "Returns the previous length of the text.");
        Check.due("clearText() of a new object", new RingReadings().clearText(), 0);
        for (int length = 1; length <= 40; length++) {
            RingReadings x = text(FORTY.substring(0, length));
            Check.due("clearText()", x.clearText(), length);
            Check.due("clearText() again", x.clearText(), 0);
        }
    }

    private static void asWordOrRing() {
        Check.promise(4, "`word`: whether as a word, or as a ring");
        error(".", 0, -1);
        error("?", 0, -1);
        error("h", -1, -1);
        error("abcdefg", 6, -1);
        error("abcde.", 5, -1);
    }

    private static void error(String text, int asWord, int asRing) {
        Check.due("errorPosition(true) of '" + text + "'", text(text).errorPosition(true), asWord);
        Check.due("errorPosition(false) of '" + text + "'", text(text).errorPosition(false), asRing);
    }

    private static void errorPosition() {
        Check.promise(4, "Returns the error position of the text; NONE if it is one.");
        for (int length = 0; length <= 40; length++) {
            String text = FORTY.substring(0, length);
            error(text, length == 0 ? 0 : length <= 6 ? -1 : 6, length == 0 ? 0 : length <= 24 ? -1 : 24);
        }
        Check.asks(() -> text(FORTY), "errorPosition(true)", x -> x.errorPosition(true), 6);
        Check.asks(Check::busy, "errorPosition(false)", x -> x.errorPosition(false), -1);
    }

    private static void atMostForty() {
        Check.sentence("Terms", "The object has a text buffer of at most 40 characters.");
        RingReadings x = text(FORTY);
        Check.refused(x, "a 41st", Check.STATE, () -> x.append('a'));
        Check.due("the length", x.clearText(), 40);
        Check.due("a next one", x.append('a'), 1);
    }

    private static void ringsAndWords() {
        Check.sentence("Terms", "It is a ring as a text if it has 1 to 24 signs: letters a to h, points, question marks; "
            + "it is a word if it has 1 to 6 letters a to h.");
        error("", 0, 0);
        error("a", -1, -1);
        error("h", -1, -1);
        error("`", 0, 0);
        error("i", 0, 0);
        error("A", 0, 0);
        error("-", 0, 0);
        error("/", 0, 0);
        error(">", 0, 0);
        error("@", 0, 0);
        error("hgfedc", -1, -1);
        error("hgfedcb", 6, -1);
        error(".?.?.?.?.?.?.?.?.?.?.?.?", 0, -1);
        error(".?.?.?.?.?.?.?.?.?.?.?.?.", 0, 24);
        Check.due("ring() of 1", text("?").ring(), 1);
        Check.due("ring() of 24", text(ALL).ring(), 24);
        Check.due("addWord() of 1", text("h").addWord(), 0);
        Check.due("addWord() of 6", text("hgfedc").addWord(), 0);
    }

    private static void firstNotAllowed() {
        Check.sentence("Terms", "The error position of one of these is the index of the first character "
            + "that is not allowed at its place (a 25th, or a 7th one, too); if the text is empty, 0.");
        for (int at = 0; at < 40; at++) {
            String text = FORTY.substring(0, at) + "z" + FORTY.substring(at + 1);
            error(text, Math.min(at, 6), Math.min(at, 24));
            error(text.substring(0, at + 1), Math.min(at, 6), Math.min(at, 24));
        }
        error("zz", 0, 0);
        error("azbz", 1, 1);
        error("abcdef.", 6, -1);
        error(ALL + ".", 6, 24);
        error(ALL + "z", 6, 24);
        error("", 0, 0);
    }
}
