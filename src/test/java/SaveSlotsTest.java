/** Promises 31 and 32: save, restore. */
public final class SaveSlotsTest {
    public static void main(String[] args) {
        saving();
        restoring();
        forgetting();
        Check.finish();
    }

    private static void saving() {
        RingReadings x = new RingReadings();
        Check.due("save(0) without places", x.save(0), 0);
        Check.write(x, "ab.").ring();
        Check.due("save(1)", x.save(1), 3);
        Check.due("save is no action", Check.undone(x), 1);
        Check.refused(x, "save(2)", Check.INDEX, () -> x.save(2));
        Check.refused(x, "save(-1)", Check.INDEX, () -> x.save(-1));
    }

    private static void restoring() {
        RingReadings x = Check.fountain("ab.", "ab");
        Check.refused(x, "restore(0) of nothing", Check.STATE, () -> x.restore(0));
        Check.refused(x, "restore(2)", Check.INDEX, () -> x.restore(2));
        Check.refused(x, "restore(-1)", Check.INDEX, () -> x.restore(-1));
        x.addWalker(0, 0, 1, 3);
        x.go(4);
        String first = Check.picture(x);
        x.save(0);
        Check.refused(x, "restore(1) of nothing", Check.STATE, () -> x.restore(1));
        x.insert(0, 5);
        x.removeWord(0);
        x.go(2);
        x.save(1);
        String second = Check.picture(x);
        Check.due("restore(0)", x.restore(0), 3);
        Check.due("all there is, behind restore(0)", Check.picture(x), first);
        Check.due("restore(1)", x.restore(1), 4);
        Check.due("all there is, behind restore(1)", Check.picture(x), second);
        x.restore(0);
        x.carve(0, 0);
        x.turn(0);
        x.go(1);
        x.restore(0);
        Check.due("the slot keeps it", Check.picture(x), first);
        Check.write(x, "h");
        x.restore(1);
        Check.due("the text stays", x.clearText(), 1);
        x.save(0);
        x.restore(0);
        Check.due("a slot is written over", Check.signs(x), "eab.");
    }

    private static void forgetting() {
        RingReadings x = Check.fountain("ab.", "ab");
        x.save(0);
        x.wear(0);
        x.restore(0);
        Check.refused(x, "undo() behind restore()", Check.STATE, x::undo);
        x.wear(1);
        Check.due("undo() behind restore() and one action", x.undo(), 0);
        Check.due("the ring", Check.signs(x), "ab.");
        x.wear(1);
        x.save(1);
        Check.due("undo() changes no slot", x.undo(), 0);
        Check.due("restore(1)", x.restore(1), 3);
        Check.due("the ring", Check.signs(x), "a?.");
    }
}
