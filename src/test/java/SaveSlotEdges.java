/** The edges that the document names for promises 31 and 32: one test for each sentence. */
final class SaveSlotEdges {
    private SaveSlotEdges() {
    }

    static void run() {
        present();
        slots();
        noSlot();
        replaced();
        forgotten();
        kept();
        placesThen();
        notRestored();
    }

    private static void present() {
        Check.promise(31, "Stores the present state in a save slot.");
        RingReadings x = Check.busy();
        String before = Check.picture(x);
        x.save(1);
        Check.due("all there is, behind save(1)", Check.picture(x), before);
        Check.due("save() is no action", Check.undone(x), 10);
        x.restore(1);
        Check.due("all there is, behind restore(1)", Check.picture(x), before);
        RingReadings empty = new RingReadings();
        empty.save(0);
        Check.write(empty, "ab").ring();
        empty.addWord();
        empty.addWalker(0, 0, 1, 1);
        empty.go(3);
        empty.restore(0);
        Check.dueRow("about of what was empty", empty::about, 0, 0, 0, 0, 0, 0, -1, 0, 1);
        RingReadings full = Check.full();
        String all = Check.picture(full);
        full.save(0);
        for (int k = 0; k < 4; k++) {
            full.erase(0);
            full.removeWord(0);
        }
        full.restore(0);
        Check.due("all there is, behind restore(0)", Check.picture(full), all);
    }

    private static void slots() {
        Check.promise(31, "Returns the places.");
        Check.due("save(0) without places", new RingReadings().save(0), 0);
        Check.due("save(1) without places", new RingReadings().save(1), 0);
        Check.due("save(0) of one place", Check.fountain("a").save(0), 1);
        Check.due("save(1) of 24 places", Check.full().save(1), 24);
        Check.promise(31, "`slot`: 0 or 1");
        RingReadings x = Check.fountain("a");
        x.save(0);
        Check.refused(x, "restore(1) where 0 was saved", Check.STATE, () -> x.restore(1));
        x.insert(0, 2);
        x.save(1);
        Check.due("restore(0)", x.restore(0), 1);
        Check.due("restore(1)", x.restore(1), 2);
        x.insert(0, 3);
        x.save(0);
        Check.due("restore(1) behind a second save(0)", x.restore(1), 2);
        Check.due("restore(0) of what was written over", x.restore(0), 3);
    }

    private static void noSlot() {
        Check.promise(31, "Throws `IndexOutOfBoundsException` if there is no such save slot");
        Outside.anywhere("save", Check.INDEX, 0, 1, (x, slot) -> x.save(slot));
    }

    private static void replaced() {
        Check.promise(32, "Replaces the state by the one in a save slot,");
        RingReadings x = Check.busy();
        x.save(1);
        String saved = Check.picture(x);
        x.removeWord(0);
        x.turn(0);
        x.insert(0, 0);
        x.addWalker(1, 0, 1, 1);
        x.go(50);
        x.restore(1);
        Check.due("all there is, behind restore(1)", Check.picture(x), saved);
        Check.write(x, "fgh");
        x.restore(0);
        Check.due("the text stays", x.clearText(), 3);
        Check.due("an earlier state", Check.signs(x), "ab.c?.");
        x.restore(1);
        Check.due("a later state", Check.signs(x), "?h.c?.");
    }

    private static void forgotten() {
        Check.promise(32, "and forgets all remembered states.");
        for (int actions : new int[] {0, 1, 14, 15}) {
            RingReadings x = new RingReadings();
            x.save(0);
            for (int k = 0; k < actions; k++) {
                x.go(1);
            }
            x.restore(0);
            Check.refused(x, "undo() behind restore() and " + actions, Check.STATE, x::undo);
            for (int k = 0; k < 14; k++) {
                x.go(2);
            }
            Check.due("the states remembered then", Check.undone(x), 14);
            Check.due("the steps of the first one", x.about(5), 0);
        }
    }

    private static void kept() {
        Check.promise(32, "The save slot keeps it.");
        RingReadings x = Check.busy();
        x.restore(0);
        String saved = Check.picture(x);
        for (int k = 0; k < 2; k++) {
            x.carve(0, 7);
            x.wear(1);
            x.turn(0);
            x.go(5);
            x.removeWord(1);
            x.undo();
            x.erase(0);
            x.restore(0);
            Check.due("all there is, behind restore(0)", Check.picture(x), saved);
        }
        x.carve(0, 7);
        x.undo();
        x.save(1);
        x.go(1);
        x.restore(1);
        Check.due("all there is, behind restore(1)", Check.picture(x), saved);
    }

    private static void placesThen() {
        Check.promise(32, "Returns the places then.");
        RingReadings x = new RingReadings();
        x.save(0);
        Check.write(x, "abcdefghabcdefghabcdefgh").ring();
        x.save(1);
        Check.due("restore(0)", x.restore(0), 0);
        Check.due("restore(1)", x.restore(1), 24);
        Check.due("restore(1) again", x.restore(1), 24);
        Check.due("restore(0) again", x.restore(0), 0);
    }

    private static void notRestored() {
        Check.promise(32, "`slot`: 0 or 1");
        Check.due("restore(0)", Check.full().restore(0), 24);
        Check.due("restore(1)", Check.full().restore(1), 24);
        Check.promise(32, "Throws `IndexOutOfBoundsException` if there is no such save slot");
        Outside.anywhere("restore", Check.INDEX, 0, 1, (x, slot) -> x.restore(slot));
        Check.promise(32, "Throws `IllegalStateException` if nothing has been saved in it");
        Check.refuses(RingReadings::new, "restore(0) of nothing", Check.STATE, x -> x.restore(0));
        Check.refuses(RingReadings::new, "restore(1) of nothing", Check.STATE, x -> x.restore(1));
        Check.refuses(Check::busy, "restore(1) where 0 was saved", Check.STATE, x -> x.restore(1));
        RingReadings x = Check.fountain("a");
        x.save(1);
        Check.refused(x, "restore(0) where 1 was saved", Check.STATE, () -> x.restore(0));
        Check.due("restore(1)", x.restore(1), 1);
        Check.refused(x, "restore(0) behind restore(1)", Check.STATE, () -> x.restore(0));
    }
}
