import java.util.function.ToIntFunction;

/** The document's section on exceptions: which one is thrown, which one first, and that nothing changes by it. */
final class Refusals {
    private Refusals() {
    }

    static void run() {
        noSuchThing();
        outOfRange();
        whatTheMethodSays();
        firstOfAppend();
        firstOfAsking();
        firstOfChanging();
        firstOfInsert();
        firstOfAddWalker();
        firstOfWhatWouldBe();
        firstOfRestore();
        nothingChanges();
    }

    private static void both(String call, Class<? extends RuntimeException> what, ToIntFunction<RingReadings> it) {
        Check.refuses(Check::busy, call, what, it);
        Check.refuses(Check::full, call, what, it);
    }

    private static void noSuchThing() {
        Check.sentence("Terms", "IndexOutOfBoundsException means that a place, a direction, a segment, a word or a walker does not exist, "
            + "or that a save slot is not 0 or 1.");
        both("a place", Check.INDEX, x -> x.at(24));
        both("a direction", Check.INDEX, x -> x.reading(2, 0));
        both("a segment", Check.INDEX, x -> x.segment(0, 12, 0));
        both("a word", Check.INDEX, x -> x.letter(10, 0));
        both("a walker", Check.INDEX, x -> x.walker(4, 0));
        both("a save slot", Check.INDEX, x -> x.save(2));
        both("a save slot", Check.INDEX, x -> x.restore(-1));
    }

    private static void outOfRange() {
        Check.sentence("Terms", "IllegalArgumentException means that another argument is out of its range.");
        both("a code", Check.ARGUMENT, x -> x.append(256));
        both("a number of about()", Check.ARGUMENT, x -> x.about(9));
        both("a sign", Check.ARGUMENT, x -> x.carve(0, 9));
        both("a pace", Check.ARGUMENT, x -> x.addWalker(0, 0, 4, 1));
        both("a sight", Check.ARGUMENT, x -> x.addWalker(0, 0, 1, 6));
        both("steps", Check.ARGUMENT, x -> x.go(51));
        both("commands", Check.ARGUMENT, x -> x.runScript(4, 0));
        both("turns", Check.ARGUMENT, x -> x.simulate(0, 61));
    }

    private static void whatTheMethodSays() {
        Check.sentence("Terms", "IllegalStateException means what the method says.");
        Check.refuses(Check::full, "append() to 40", Check.STATE, x -> x.append('a'));
        Check.refuses(Check::full, "ring() of 40", Check.STATE, RingReadings::ring);
        Check.refuses(Check::full, "addWord() to 10", Check.STATE, RingReadings::addWord);
        Check.refuses(Check::full, "insert() into 24", Check.STATE, x -> x.insert(0, 0));
        Check.refuses(Check::full, "addWalker() to 4", Check.STATE, x -> x.addWalker(0, 0, 1, 1));
        Check.refuses(RingReadings::new, "undo() of nothing", Check.STATE, RingReadings::undo);
        Check.refuses(Check::full, "meet() of one", Check.STATE, x -> x.meet(3, 3));
        Check.refuses(Check::busy, "restore() of nothing", Check.STATE, x -> x.restore(1));
    }

    private static void first() {
        Check.sentence("Terms", "If several exceptions apply to a call, the one that its description names first is thrown.");
    }

    private static void firstOfAppend() {
        first();
        for (int c : Outside.numbers(0, 255)) {
            Check.refuses(Check::full, "append(" + c + ") to 40", Check.ARGUMENT, x -> x.append(c));
        }
    }

    private static void firstOfAsking() {
        first();
        both("letter(10, -1)", Check.INDEX, x -> x.letter(10, -1));
        both("letter(-1, -1)", Check.INDEX, x -> x.letter(-1, -1));
        both("reading(2, 4)", Check.INDEX, x -> x.reading(2, 4));
        both("reading(-1, -1)", Check.INDEX, x -> x.reading(-1, -1));
        both("segment(2, 0, 5)", Check.INDEX, x -> x.segment(2, 0, 5));
        both("segment(-1, 0, -1)", Check.INDEX, x -> x.segment(-1, 0, -1));
        both("segment(0, 12, 5)", Check.INDEX, x -> x.segment(0, 12, 5));
        both("segment(1, -1, -1)", Check.INDEX, x -> x.segment(1, -1, -1));
        both("find(10, 0, -1)", Check.INDEX, x -> x.find(10, 0, -1));
        both("find(-1, 1, -1)", Check.INDEX, x -> x.find(-1, 1, -1));
        both("find(0, 2, -1)", Check.INDEX, x -> x.find(0, 2, -1));
        both("find(0, -1, -1)", Check.INDEX, x -> x.find(0, -1, -1));
        both("walker(4, 7)", Check.INDEX, x -> x.walker(4, 7));
        both("walker(-1, -1)", Check.INDEX, x -> x.walker(-1, -1));
    }

    private static void firstOfChanging() {
        first();
        both("carve(24, 9)", Check.INDEX, x -> x.carve(24, 9));
        both("carve(-1, -1)", Check.INDEX, x -> x.carve(-1, -1));
    }

    private static void firstOfInsert() {
        first();
        both("insert(25, 9)", Check.INDEX, x -> x.insert(25, 9));
        both("insert(-1, -1)", Check.INDEX, x -> x.insert(-1, -1));
        both("insert(25, 0)", Check.INDEX, x -> x.insert(25, 0));
        both("insert(-1, 8)", Check.INDEX, x -> x.insert(-1, 8));
        both("insert(0, 9)", Check.ARGUMENT, x -> x.insert(0, 9));
        both("insert(6, -1)", Check.ARGUMENT, x -> x.insert(6, -1));
        Check.refuses(Check::full, "insert(24, 9)", Check.ARGUMENT, x -> x.insert(24, 9));
    }

    private static void firstOfAddWalker() {
        first();
        both("addWalker(24, 0, 0, 1)", Check.INDEX, x -> x.addWalker(24, 0, 0, 1));
        both("addWalker(-1, 0, 1, 6)", Check.INDEX, x -> x.addWalker(-1, 0, 1, 6));
        both("addWalker(0, 2, 4, 1)", Check.INDEX, x -> x.addWalker(0, 2, 4, 1));
        both("addWalker(0, -1, 1, 0)", Check.INDEX, x -> x.addWalker(0, -1, 1, 0));
        both("addWalker(24, 0, 1, 1)", Check.INDEX, x -> x.addWalker(24, 0, 1, 1));
        both("addWalker(0, 2, 1, 1)", Check.INDEX, x -> x.addWalker(0, 2, 1, 1));
        both("addWalker(0, 0, 0, 1)", Check.ARGUMENT, x -> x.addWalker(0, 0, 0, 1));
        both("addWalker(0, 1, 4, 5)", Check.ARGUMENT, x -> x.addWalker(0, 1, 4, 5));
        both("addWalker(0, 1, 3, 0)", Check.ARGUMENT, x -> x.addWalker(0, 1, 3, 0));
        both("addWalker(0, 0, 1, 6)", Check.ARGUMENT, x -> x.addWalker(0, 0, 1, 6));
    }

    private static void firstOfWhatWouldBe() {
        first();
        both("meet(4, 4)", Check.INDEX, x -> x.meet(4, 4));
        both("meet(-1, -1)", Check.INDEX, x -> x.meet(-1, -1));
        both("bestDivider(2, 2)", Check.INDEX, x -> x.bestDivider(2, 2));
        both("bestDivider(-1, -1)", Check.INDEX, x -> x.bestDivider(-1, -1));
    }

    private static void firstOfRestore() {
        first();
        Check.refuses(RingReadings::new, "restore(2)", Check.INDEX, x -> x.restore(2));
        Check.refuses(RingReadings::new, "restore(-1)", Check.INDEX, x -> x.restore(-1));
    }

    private static void nothingChanges() {
        Check.sentence("Terms", "A call that throws an exception changes nothing.");
        RingReadings x = Check.full();
        refuseAll(x);
        Check.due("all to the last, behind every refusal", Check.whole(x), Check.whole(Check.full()));
        RingReadings y = new RingReadings();
        refuseAll(y);
        Check.due("undo() of a new object", Check.thrown(y::undo), "IllegalStateException");
        Check.due("all to the last, behind every refusal", Check.whole(y), Check.whole(new RingReadings()));
    }

    private static void refuseAll(RingReadings x) {
        Check.thrown(() -> x.append(-1));
        Check.thrown(() -> x.append(256));
        Check.thrown(() -> x.about(9));
        Check.thrown(() -> x.at(24));
        Check.thrown(() -> x.letter(10, 0));
        Check.thrown(() -> x.reading(0, 4));
        Check.thrown(() -> x.segment(0, 12, 0));
        Check.thrown(() -> x.find(0, 2, 0));
        Check.thrown(() -> x.walker(4, 0));
        Check.thrown(x::ring);
        Check.thrown(x::addWord);
        Check.thrown(() -> x.removeWord(10));
        Check.thrown(() -> x.carve(0, 9));
        Check.thrown(() -> x.wear(24));
        Check.thrown(() -> x.insert(25, 0));
        Check.thrown(() -> x.insert(0, 9));
        Check.thrown(() -> x.erase(24));
        Check.thrown(() -> x.addWalker(0, 0, 4, 1));
        Check.thrown(() -> x.addWalker(24, 0, 1, 1));
        Check.thrown(() -> x.turn(4));
        Check.thrown(() -> x.go(0));
        Check.thrown(() -> x.go(51));
        Check.thrown(() -> x.meet(0, 4));
        Check.thrown(() -> x.seesAll(4));
        Check.thrown(() -> x.ifWorn(24, 0));
        Check.thrown(() -> x.bestDivider(0, 2));
        Check.thrown(() -> x.canBe(24, 0));
        Check.thrown(() -> x.runScript(1, 10000));
        Check.thrown(() -> x.simulate(0, 61));
        Check.thrown(() -> x.save(2));
        Check.thrown(() -> x.restore(2));
    }
}
