/** Promises 12 to 22: ring, addWord, removeWord, carve, wear, insert, erase, addWalker, turn, go, undo. */
public final class ActionsTest {
    public static void main(String[] args) {
        rings();
        addingWords();
        removingWords();
        carving();
        wearing();
        inserting();
        erasing();
        addingWalkers();
        turning();
        going();
        undoing();
        remembering();
        refusalsAreNotRemembered();
        walkersGoAway();
        Check.finish();
    }

    private static void rings() {
        RingReadings x = new RingReadings();
        Check.refused(x, "ring() without a text", Check.STATE, x::ring);
        Check.write(x, "ab.?h");
        Check.due("ring()", x.ring(), 5);
        Check.due("the ring", Check.signs(x), "ab.?h");
        Check.due("ring() again, the text is kept", x.ring(), 5);
        Check.due("the text", x.clearText(), 5);
        Check.write(x, "abi");
        Check.refused(x, "ring() of abi", Check.STATE, x::ring);
        Check.write(x, "abcdefghabcdefghabcdefgha");
        Check.refused(x, "ring() of 25", Check.STATE, x::ring);
        Check.write(x, "abcdefghabcdefghabcdefgh");
        Check.due("ring() of 24", x.ring(), 24);
        Check.due("the ring of 24", Check.signs(x), "abcdefghabcdefghabcdefgh");
        Check.write(x, "?").ring();
        Check.due("a ring behind a longer one", Check.signs(x), "?");
    }

    private static void addingWords() {
        RingReadings x = new RingReadings();
        Check.refused(x, "addWord() without a text", Check.STATE, x::addWord);
        Check.write(x, "a.");
        Check.refused(x, "addWord() of a.", Check.STATE, x::addWord);
        Check.write(x, "abcdefg");
        Check.refused(x, "addWord() of seven", Check.STATE, x::addWord);
        Check.write(x, "abcdef");
        Check.due("addWord()", x.addWord(), 0);
        Check.due("addWord() again, the text is kept", x.addWord(), 1);
        Check.write(x, "hg");
        for (int w = 2; w < 10; w++) {
            Check.due("addWord()", x.addWord(), w);
        }
        Check.due("the book", Check.words(x), "abcdef abcdef hg hg hg hg hg hg hg hg");
        Check.refused(x, "an eleventh word", Check.STATE, x::addWord);
        Check.due("what was remembered", Check.undone(x), 10);
    }

    private static void removingWords() {
        RingReadings x = Check.fountain("a.", "abcdef", "b", "ccc", "dd");
        Check.refused(x, "removeWord(4)", Check.INDEX, () -> x.removeWord(4));
        Check.refused(x, "removeWord(-1)", Check.INDEX, () -> x.removeWord(-1));
        Check.due("removeWord(1)", x.removeWord(1), 3);
        Check.due("the book", Check.words(x), "abcdef ccc dd");
        Check.due("removeWord(2)", x.removeWord(2), 2);
        Check.due("the book", Check.words(x), "abcdef ccc");
        Check.due("removeWord(0)", x.removeWord(0), 1);
        Check.due("removeWord(0)", x.removeWord(0), 0);
        Check.refused(x, "removeWord(0) of none", Check.INDEX, () -> x.removeWord(0));
        RingReadings full = Check.fountain("", "a", "b", "c", "d", "e", "f", "g", "h", "aa", "bb");
        Check.due("removeWord(9) of ten", full.removeWord(9), 9);
        Check.due("removeWord(0) of nine", full.removeWord(0), 8);
        Check.due("the book", Check.words(full), "b c d e f g h aa");
    }

    private static void carving() {
        RingReadings x = Check.fountain("ab.?");
        Check.due("carve(0, 0)", x.carve(0, 0), 97);
        Check.due("carve(1, 1)", x.carve(1, 1), 98);
        Check.due("carve(2, 8)", x.carve(2, 8), 46);
        Check.due("carve(3, 4)", x.carve(3, 4), 63);
        Check.due("the ring", Check.signs(x), ".ahd");
        Check.due("carve the same", x.carve(3, 4), 100);
        Check.refused(x, "carve(4, 0)", Check.INDEX, () -> x.carve(4, 0));
        Check.refused(x, "carve(-1, 0)", Check.INDEX, () -> x.carve(-1, 0));
        Check.refused(x, "carve(0, 9)", Check.ARGUMENT, () -> x.carve(0, 9));
        Check.refused(x, "carve(0, -1)", Check.ARGUMENT, () -> x.carve(0, -1));
        Check.refused(x, "carve(4, 9)", Check.INDEX, () -> x.carve(4, 9));
        x.addWalker(0, 0, 1, 2);
        x.carve(0, 3);
        Check.due("walkers stay where one carves", x.about(4), 1);
        Check.due("what was seen stays seen", x.walker(0, 4), 2);
    }

    private static void wearing() {
        RingReadings x = Check.fountain("ah.?");
        Check.due("wear(0)", x.wear(0), 2);
        Check.due("wear a divider", x.wear(2), 2);
        Check.due("wear a worn place", x.wear(3), 2);
        Check.due("wear(1)", x.wear(1), 3);
        Check.due("the ring", Check.signs(x), "??.?");
        Check.refused(x, "wear(4)", Check.INDEX, () -> x.wear(4));
        Check.refused(x, "wear(-1)", Check.INDEX, () -> x.wear(-1));
        Check.due("each of them is remembered", Check.undone(x), 5);
        RingReadings y = Check.fountain("ab");
        y.addWalker(1, 0, 1, 1);
        y.wear(1);
        Check.due("walkers stay where one wears", y.about(4), 1);
    }

    private static void inserting() {
        RingReadings x = new RingReadings();
        Check.refused(x, "insert(1, 0) into none", Check.INDEX, () -> x.insert(1, 0));
        Check.due("insert(0, 1)", x.insert(0, 1), 1);
        Check.due("insert(1, 8)", x.insert(1, 8), 2);
        Check.due("insert(1, 0)", x.insert(1, 0), 3);
        Check.due("insert(0, 2)", x.insert(0, 2), 4);
        Check.due("the ring", Check.signs(x), "ba.h");
        Check.refused(x, "insert(5, 1)", Check.INDEX, () -> x.insert(5, 1));
        Check.refused(x, "insert(-1, 1)", Check.INDEX, () -> x.insert(-1, 1));
        Check.refused(x, "insert(0, 9)", Check.ARGUMENT, () -> x.insert(0, 9));
        Check.refused(x, "insert(0, -1)", Check.ARGUMENT, () -> x.insert(0, -1));
        Check.refused(x, "insert(5, 9)", Check.INDEX, () -> x.insert(5, 9));
        RingReadings y = Check.fountain("abcdefghabcdefghabcdefg");
        Check.due("a 24th place", y.insert(23, 0), 24);
        Check.due("the ring", Check.signs(y), "abcdefghabcdefghabcdefg.");
        Check.refused(y, "a 25th place", Check.STATE, () -> y.insert(24, 0));
        Check.refused(y, "a 25th place", Check.STATE, () -> y.insert(0, 0));
        Check.refused(y, "a 25th place that is none", Check.INDEX, () -> y.insert(25, 9));
        Check.refused(y, "a 25th place with no sign", Check.ARGUMENT, () -> y.insert(24, 9));
    }

    private static void erasing() {
        RingReadings x = Check.fountain("ab.?");
        Check.refused(x, "erase(4)", Check.INDEX, () -> x.erase(4));
        Check.refused(x, "erase(-1)", Check.INDEX, () -> x.erase(-1));
        Check.due("erase(1)", x.erase(1), 3);
        Check.due("the ring", Check.signs(x), "a.?");
        Check.due("erase the last", x.erase(2), 2);
        Check.due("erase the first", x.erase(0), 1);
        Check.due("the ring", Check.signs(x), ".");
        Check.due("erase the only one", x.erase(0), 0);
        Check.dueRow("about without places", x::about, 0, 0, 0, 0, 0, 0, -1, 0, 1);
        Check.refused(x, "erase(0) of none", Check.INDEX, () -> x.erase(0));
    }

    private static void addingWalkers() {
        RingReadings x = Check.fountain("abcdef");
        Check.refused(x, "addWalker(6, 0, 1, 1)", Check.INDEX, () -> x.addWalker(6, 0, 1, 1));
        Check.refused(x, "addWalker(-1, 0, 1, 1)", Check.INDEX, () -> x.addWalker(-1, 0, 1, 1));
        Check.refused(x, "addWalker(0, 2, 1, 1)", Check.INDEX, () -> x.addWalker(0, 2, 1, 1));
        Check.refused(x, "addWalker(0, -1, 1, 1)", Check.INDEX, () -> x.addWalker(0, -1, 1, 1));
        Check.refused(x, "addWalker(0, 0, 0, 1)", Check.ARGUMENT, () -> x.addWalker(0, 0, 0, 1));
        Check.refused(x, "addWalker(0, 0, 4, 1)", Check.ARGUMENT, () -> x.addWalker(0, 0, 4, 1));
        Check.refused(x, "addWalker(0, 0, 1, 0)", Check.ARGUMENT, () -> x.addWalker(0, 0, 1, 0));
        Check.refused(x, "addWalker(0, 0, 1, 6)", Check.ARGUMENT, () -> x.addWalker(0, 0, 1, 6));
        Check.refused(x, "addWalker(0, 2, 4, 1)", Check.INDEX, () -> x.addWalker(0, 2, 4, 1));
        Check.refused(x, "addWalker(6, 0, 1, 6)", Check.INDEX, () -> x.addWalker(6, 0, 1, 6));
        Check.due("addWalker", x.addWalker(5, 0, 3, 5), 0);
        Check.dueRow("walker 0", what -> x.walker(0, what), 5, 0, 3, 5, 5, 0, 0);
        x.go(1);
        Check.due("addWalker", x.addWalker(0, 1, 1, 1), 1);
        Check.dueRow("walker 1", what -> x.walker(1, what), 0, 1, 1, 1, 1, 0, 0);
        Check.due("addWalker", x.addWalker(0, 1, 1, 1), 2);
        Check.due("addWalker", x.addWalker(1, 0, 2, 3), 3);
        Check.refused(x, "a fifth walker", Check.STATE, () -> x.addWalker(0, 0, 1, 1));
        Check.refused(x, "a fifth walker of no pace", Check.ARGUMENT, () -> x.addWalker(0, 0, 0, 1));
        Check.refused(x, "a fifth walker of no direction", Check.INDEX, () -> x.addWalker(0, 2, 0, 1));
        x.insert(0, 1);
        Check.due("a new walker is the first", x.addWalker(0, 0, 1, 2), 0);
        Check.due("a new walker has seen nothing else", x.walker(0, 4), 2);
    }

    private static void turning() {
        RingReadings x = Check.fountain("abcdefgh");
        x.addWalker(0, 0, 1, 3);
        x.addWalker(4, 1, 2, 1);
        Check.due("turn(0)", x.turn(0), 5);
        Check.dueRow("walker 0", what -> x.walker(0, what), 0, 1, 1, 3, 5);
        Check.due("turn back", x.turn(0), 5);
        Check.due("its direction", x.walker(0, 1), 0);
        Check.due("turn(1)", x.turn(1), 1);
        x.go(1);
        Check.due("the other way", x.walker(1, 0), 6);
        Check.refused(x, "turn(2)", Check.INDEX, () -> x.turn(2));
        Check.refused(x, "turn(-1)", Check.INDEX, () -> x.turn(-1));
    }

    private static void going() {
        RingReadings x = Check.fountain("a.b.c.d.");
        x.addWalker(0, 0, 2, 1);
        x.addWalker(1, 1, 1, 2);
        Check.refused(x, "go(0)", Check.ARGUMENT, () -> x.go(0));
        Check.refused(x, "go(51)", Check.ARGUMENT, () -> x.go(51));
        Check.refused(x, "go(-1)", Check.ARGUMENT, () -> x.go(-1));
        Check.due("go(1)", x.go(1), 1);
        Check.dueRow("walker 0", what -> x.walker(0, what), 2, 0, 2, 1, 2, 0, 0);
        Check.dueRow("walker 1", what -> x.walker(1, what), 0, 1, 1, 2, 3, 1, 0);
        Check.due("go(2)", x.go(2), 2);
        Check.due("go(50)", x.go(50), 4);
        Check.due("what is passed by is not seen", x.walker(0, 4), 4);
        Check.due("all is seen", x.walker(1, 4), 8);
        Check.due("the steps", x.about(5), 53);
        Check.due("walker 0 is at", x.walker(0, 0), 106 % 8);
        Check.due("walker 1 is at", x.walker(1, 0), Math.floorMod(1 - 53, 8));
        x.addWalker(7, 1, 1, 3);
        Check.due("one segment known by two counts twice", x.go(1), 5);
        RingReadings none = Check.fountain("a.");
        Check.due("go without walkers", none.go(50), 0);
        Check.due("the steps without walkers", none.about(5), 50);
        Check.due("go without places", new RingReadings().go(1), 0);
    }

    private static void undoing() {
        RingReadings x = Check.fountain("ab.cd.", "cd");
        String[] pictures = new String[11];
        Runnable[] actions = {
            () -> x.addWalker(0, 0, 1, 3), () -> x.go(2), () -> x.turn(0), () -> x.carve(0, 0), () -> x.wear(1),
            () -> x.removeWord(0), () -> x.addWord(), () -> x.insert(0, 0), () -> x.erase(5), () -> x.go(1),
        };
        for (int k = 0; k < actions.length; k++) {
            pictures[k] = Check.picture(x);
            actions[k].run();
        }
        pictures[10] = Check.picture(x);
        for (int k = actions.length - 1; k >= 0; k--) {
            Check.due("undo() of action " + k, x.undo(), k + 2);
            Check.due("all there is, behind undo() of " + k, Check.picture(x), pictures[k]);
        }
        Check.due("undo() of addWord()", x.undo(), 1);
        Check.due("the book", Check.words(x), "");
        Check.due("undo() of ring()", x.undo(), 0);
        Check.due("the places", x.about(0), 0);
        Check.refused(x, "undo() of nothing", Check.STATE, x::undo);
        Check.due("the text is none of it", x.clearText(), 2);
        RingReadings y = Check.fountain("abc");
        y.addWalker(0, 0, 1, 2);
        y.ring();
        Check.due("no walkers behind ring()", y.about(4), 0);
        y.undo();
        Check.due("the walkers behind undo()", y.about(4), 1);
    }

    private static void remembering() {
        RingReadings x = Check.fountain("a");
        for (int k = 1; k <= 20; k++) {
            x.carve(0, k % 9);
        }
        for (int k = 19; k > 5; k--) {
            Check.due("undo() of 14", x.undo(), k - 6);
            Check.due("the sign then", x.at(0), k % 9 == 0 ? 46 : 96 + k % 9);
        }
        Check.refused(x, "undo() of what was forgotten", Check.STATE, x::undo);
        x.wear(0);
        Check.due("undo() of one more", x.undo(), 0);
        Check.due("the sign then", x.at(0), 96 + 6);
        for (int k = 0; k < 14; k++) {
            x.go(1);
        }
        Check.due("undo() of just 14", Check.undone(x), 14);
    }

    private static void refusalsAreNotRemembered() {
        RingReadings x = Check.fountain("abcdefghabcdefghabcdefgh", "a");
        x.wear(0);
        Check.write(x, "z");
        Check.refused(x, "ring()", Check.STATE, x::ring);
        Check.refused(x, "addWord()", Check.STATE, x::addWord);
        Check.refused(x, "removeWord()", Check.INDEX, () -> x.removeWord(7));
        Check.refused(x, "carve()", Check.ARGUMENT, () -> x.carve(0, 9));
        Check.refused(x, "wear()", Check.INDEX, () -> x.wear(24));
        Check.refused(x, "insert()", Check.STATE, () -> x.insert(0, 0));
        Check.refused(x, "erase()", Check.INDEX, () -> x.erase(24));
        Check.refused(x, "addWalker()", Check.INDEX, () -> x.addWalker(24, 0, 1, 1));
        Check.refused(x, "turn()", Check.INDEX, () -> x.turn(0));
        Check.refused(x, "go()", Check.ARGUMENT, () -> x.go(51));
        Check.due("what is remembered", Check.undone(x), 3);
    }

    private static void walkersGoAway() {
        RingReadings x = Check.fountain("abc.");
        x.addWalker(0, 0, 1, 1);
        x.ring();
        Check.due("the walkers behind ring() of the same", x.about(4), 0);
        x.addWalker(0, 0, 1, 1);
        x.addWalker(0, 0, 1, 1);
        x.insert(4, 0);
        Check.due("the walkers behind insert()", x.about(4), 0);
        x.addWalker(0, 0, 1, 1);
        x.erase(4);
        Check.due("the walkers behind erase()", x.about(4), 0);
        x.addWalker(0, 0, 1, 1);
        Check.write(x, "abc").addWord();
        x.removeWord(0);
        Check.due("the walkers behind other actions", x.about(4), 1);
    }
}
