import java.util.function.ToIntFunction;

/** The edges that the document names for promise 22 and in its section on actions and undo: one test for each sentence. */
final class UndoEdges {
    private UndoEdges() {
    }

    static void run() {
        lastAction();
        stillRemembered();
        nothingRemembered();
        state();
        actions();
        eachState();
        fourteen();
        restoring();
    }

    private static void lastAction() {
        Check.promise(22, "Takes back the last action that is remembered.");
        takenBack("ring()", "ab", RingReadings::ring);
        takenBack("addWord()", "ab", RingReadings::addWord);
        takenBack("removeWord(0)", "", x -> x.removeWord(0));
        takenBack("removeWord(2)", "", x -> x.removeWord(2));
        takenBack("carve(0, 0)", "", x -> x.carve(0, 0));
        takenBack("wear(1)", "", x -> x.wear(1));
        takenBack("insert(6, 0)", "", x -> x.insert(6, 0));
        takenBack("erase(5)", "", x -> x.erase(5));
        takenBack("addWalker(0, 1, 3, 5)", "", x -> x.addWalker(0, 1, 3, 5));
        takenBack("turn(1)", "", x -> x.turn(1));
        takenBack("go(50)", "", x -> x.go(50));
    }

    private static void takenBack(String call, String text, ToIntFunction<RingReadings> it) {
        RingReadings x = Check.write(Check.busy(), text);
        it.applyAsInt(x);
        Check.due("undo() of " + call, x.undo(), 10);
        Check.due("all to the last, behind undo() of " + call, Check.whole(x), Check.whole(Check.write(Check.busy(), text)));
    }

    private static void stillRemembered() {
        Check.promise(22, "Returns how many states are still remembered.");
        for (int actions = 1; actions <= 20; actions++) {
            RingReadings x = new RingReadings();
            for (int k = 0; k < actions; k++) {
                x.go(1);
            }
            for (int left = Math.min(actions, 14) - 1; left >= 0; left--) {
                Check.due("undo() of " + actions, x.undo(), left);
            }
            Check.refused(x, "one more", Check.STATE, x::undo);
        }
    }

    private static void nothingRemembered() {
        Check.promise(22, "Throws `IllegalStateException` if none is remembered");
        Check.refuses(RingReadings::new, "undo() of a new object", Check.STATE, RingReadings::undo);
        Check.refuses(() -> Check.write(new RingReadings(), "ab"), "undo() of a text", Check.STATE, RingReadings::undo);
        RingReadings x = Check.busy();
        x.restore(0);
        Check.refused(x, "undo() behind restore()", Check.STATE, x::undo);
        RingReadings y = Check.busy();
        Check.due("undone", Check.undone(y), 10);
        Check.refused(y, "undo() behind the first action", Check.STATE, y::undo);
        y.go(1);
        Check.due("undo() of a next action", y.undo(), 0);
        Check.refused(y, "undo() behind it", Check.STATE, y::undo);
    }

    private static void state() {
        Check.sentence("Terms", "The methods in the section \"actions\" change the state, which consists of everything but the text and the save slots.");
        RingReadings x = Check.busy();
        Check.due("the text", x.clearText(), 2);
        Check.write(x, "fgh");
        x.go(9);
        x.save(1);
        x.undo();
        Check.due("the text behind undo()", x.clearText(), 3);
        Check.due("the steps behind undo()", x.about(5), 3);
        Check.due("restore(1)", x.restore(1), 6);
        Check.due("the steps of the slot behind undo()", x.about(5), 12);
        RingReadings y = new RingReadings();
        Check.write(y, "a").ring();
        y.save(0);
        y.undo();
        Check.due("restore(0) of what undo() took back", y.restore(0), 1);
        Check.due("the text behind restore()", y.clearText(), 1);
    }

    private static void actions() {
        Check.sentence("Terms", "Each call of one of them that does not throw an exception is an action, also if nothing becomes different (undo is none).");
        action("ring() of the same", RingReadings::ring);
        action("addWord()", RingReadings::addWord);
        action("removeWord()", x -> x.removeWord(0));
        action("carve() of the same", x -> x.carve(2, 0));
        action("wear() of a divider", x -> x.wear(2));
        action("wear() of a worn place", x -> x.wear(3));
        action("insert()", x -> x.insert(0, 1));
        action("erase()", x -> x.erase(0));
        action("addWalker()", x -> x.addWalker(0, 0, 1, 1));
        action("turn()", x -> x.turn(0));
        action("go()", x -> x.go(1));
        RingReadings x = Check.busy();
        x.undo();
        Check.due("undo() is none", x.undo(), 8);
        RingReadings none = new RingReadings();
        none.go(1);
        Check.due("go() without places is one", Check.undone(none), 1);
    }

    private static void action(String call, ToIntFunction<RingReadings> it) {
        RingReadings x = Check.fountain("ab.?");
        x.addWalker(0, 0, 1, 1);
        Check.write(x, "ab").addWord();
        Check.write(x, call.startsWith("ring") ? "ab.?" : "ab");
        it.applyAsInt(x);
        Check.due("undo() of " + call, x.undo(), 3);
        Check.due("the walkers behind undo() of " + call, x.about(4), 1);
        Check.due("the ring behind undo() of " + call, Check.signs(x), "ab.?");
    }

    private static void eachState() {
        Check.sentence("Terms", "Before each action, the state is remembered.");
        RingReadings x = Check.fountain("a");
        for (int c = 2; c <= 8; c++) {
            x.carve(0, c);
        }
        for (int c = 7; c >= 1; c--) {
            x.undo();
            Check.due("the sign", x.at(0), 'a' + c - 1);
        }
        Check.due("undo() of ring()", x.undo(), 0);
        Check.due("without places", x.about(0), 0);
        RingReadings y = Check.fountain("abc");
        y.carve(0, 8);
        y.undo();
        y.carve(1, 8);
        y.undo();
        Check.due("an action behind undo()", Check.signs(y), "abc");
    }

    private static void fourteen() {
        Check.sentence("Terms", "At most 14 states are remembered; when one more is remembered, the oldest one is forgotten.");
        for (int actions : new int[] {13, 14, 15, 16, 28, 29, 100}) {
            RingReadings x = new RingReadings();
            for (int k = 0; k < actions; k++) {
                x.go(1);
            }
            int remembered = Math.min(actions, 14);
            Check.due("undone of " + actions, Check.undone(x), remembered);
            Check.due("the steps of the oldest one", x.about(5), actions - remembered);
        }
        RingReadings x = new RingReadings();
        for (int k = 0; k < 20; k++) {
            x.go(1);
        }
        for (int k = 0; k < 5; k++) {
            x.undo();
        }
        for (int k = 0; k < 8; k++) {
            x.go(2);
        }
        Check.due("undone, where the row has been begun anew", Check.undone(x), 14);
        Check.due("the steps of the oldest one", x.about(5), 9);
    }

    private static void restoring() {
        Check.sentence("Terms", "restore is no action.");
        RingReadings x = Check.busy();
        x.restore(0);
        Check.due("what is remembered behind restore()", Check.undone(x), 0);
        x.go(1);
        x.restore(0);
        x.go(1);
        Check.due("undo() of the action behind it", x.undo(), 0);
        Check.due("the steps", x.about(5), 2);
    }
}
