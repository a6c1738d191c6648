/** The edges that the document names for promises 12 to 21: one test for each sentence. */
final class ActionEdges {
    private static final String ALL = "abcdefghabcdefghabcdefgh";

    private ActionEdges() {
    }

    static void run() {
        ringOfText();
        ringKeepsText();
        noRing();
        wordOfText();
        wordKeepsText();
        noWord();
        wordsThen();
        noWordToRemove();
        carved();
        notCarved();
        worn();
        notWorn();
        inserted();
        notInserted();
        erased();
        notErased();
        walkerAdded();
        walkerSeesAtOnce();
        noWalkerAdded();
        turned();
        notTurned();
        gone();
        knownByAll();
        notGone();
    }

    private static RingReadings busyWith(String text) {
        return Check.write(Check.busy(), text);
    }

    private static RingReadings fullWith(String text) {
        return Check.write(Check.full(), text);
    }

    private static void ringOfText() {
        Check.promise(12, "Makes the text the ring.");
        RingReadings x = Check.fountain(ALL);
        for (String ring : new String[] {"?", ".", "h", "ab.?", ALL, "a"}) {
            Check.write(x, ring).ring();
            Check.due("the ring", Check.signs(x), ring);
        }
        Check.promise(12, "Returns the places.");
        for (int places = 1; places <= 24; places++) {
            Check.due("ring()", Check.write(x, ALL.substring(0, places)).ring(), places);
        }
    }

    private static void ringKeepsText() {
        Check.promise(12, "Keeps the text.");
        RingReadings x = Check.fountain(ALL);
        Check.due("ring() again", x.ring(), 24);
        x.carve(0, 0);
        x.erase(23);
        Check.due("ring() behind other actions", x.ring(), 24);
        Check.due("the ring", Check.signs(x), ALL);
        Check.due("the text", x.clearText(), 24);
        Check.due("the ring stays without the text", Check.signs(x), ALL);
    }

    private static void noRing() {
        Check.promise(12, "Throws `IllegalStateException` if the text is not a ring");
        for (String text : new String[] {"", "i", "ab cd", "abz", ALL + "a", ALL + ".", ALL + ALL.substring(0, 16), "A"}) {
            Check.refuses(() -> busyWith(text), "ring() of '" + text + "'", Check.STATE, RingReadings::ring);
            Check.refuses(() -> fullWith(text), "ring() of '" + text + "'", Check.STATE, RingReadings::ring);
        }
    }

    private static void wordOfText() {
        Check.promise(13, "Adds the text to the book.");
        RingReadings x = new RingReadings();
        String all = "";
        for (String word : new String[] {"h", "abcdef", "a", "gg", "abc", "dcba", "fffff"}) {
            Check.write(x, word).addWord();
            all = all.isEmpty() ? word : all + " " + word;
            Check.due("the book", Check.words(x), all);
        }
        Check.promise(13, "Returns the number of the word.");
        RingReadings y = Check.write(new RingReadings(), "abcdef");
        for (int w = 0; w < 10; w++) {
            Check.due("addWord()", y.addWord(), w);
        }
        y.removeWord(0);
        Check.due("addWord() where one was taken out", y.addWord(), 9);
    }

    private static void wordKeepsText() {
        Check.promise(13, "Keeps the text.");
        RingReadings x = Check.write(new RingReadings(), "abcdef");
        x.addWord();
        Check.due("the text as a ring", x.ring(), 6);
        Check.due("the ring", Check.signs(x), "abcdef");
        Check.due("the text", x.clearText(), 6);
        Check.due("the word stays without the text", Check.words(x), "abcdef");
    }

    private static void noWord() {
        Check.promise(13, "Throws `IllegalStateException` if the text is not a word, or there are 10");
        for (String text : new String[] {"", ".", "?", "i", "ab.", "abcdefg", "abcdef.", ALL, ALL + ALL.substring(0, 16)}) {
            Check.refuses(() -> busyWith(text), "addWord() of '" + text + "'", Check.STATE, RingReadings::addWord);
            Check.refuses(() -> fullWith(text), "addWord() of '" + text + "', the eleventh", Check.STATE, RingReadings::addWord);
        }
        Check.refuses(() -> fullWith("a"), "addWord(), the eleventh", Check.STATE, RingReadings::addWord);
        Check.refuses(() -> fullWith("abcdef"), "addWord(), the eleventh", Check.STATE, RingReadings::addWord);
        RingReadings x = fullWith("h");
        x.removeWord(5);
        Check.due("the tenth", x.addWord(), 9);
        Check.refused(x, "the eleventh again", Check.STATE, x::addWord);
    }

    private static void wordsThen() {
        Check.promise(14, "Takes a word out of the book.");
        RingReadings x = Check.fountain("", "a", "bb", "ccc", "dddd", "eeeee", "ffffff", "g", "h", "ab", "cd");
        x.removeWord(9);
        Check.due("the last of ten", Check.words(x), "a bb ccc dddd eeeee ffffff g h ab");
        x.removeWord(0);
        Check.due("the first", Check.words(x), "bb ccc dddd eeeee ffffff g h ab");
        x.removeWord(3);
        Check.due("one between", Check.words(x), "bb ccc dddd ffffff g h ab");
        Check.promise(14, "Returns the words then.");
        for (int words = 6; words >= 0; words--) {
            Check.due("removeWord(0)", x.removeWord(0), words);
        }
        Check.due("the book", Check.words(x), "");
        Check.due("the first word then", x.addWord(), 0);
        Check.due("removeWord(9) of ten", Check.full().removeWord(9), 9);
    }

    private static void noWordToRemove() {
        Check.promise(14, "Throws `IndexOutOfBoundsException` if there is no such word");
        Outside.words("removeWord", (x, w) -> x.removeWord(w));
        RingReadings x = Check.fountain("", "a", "b");
        x.removeWord(0);
        Check.refused(x, "removeWord(1) of 1", Check.INDEX, () -> x.removeWord(1));
    }

    private static void carved() {
        Check.promise(15, "`c`: 0 for the divider, 1 to 8 for a to h");
        for (int c = 0; c <= 8; c++) {
            RingReadings x = Check.fountain("a?" + ALL.substring(2));
            x.carve(0, c);
            x.carve(1, c);
            x.carve(23, c);
            Check.due("at(0)", x.at(0), ".abcdefgh".charAt(c));
            Check.due("at(1)", x.at(1), ".abcdefgh".charAt(c));
            Check.due("at(2)", x.at(2), 'c');
            Check.due("at(22)", x.at(22), 'g');
            Check.due("at(23)", x.at(23), ".abcdefgh".charAt(c));
        }
        Check.promise(15, "Returns the code of what stood there.");
        RingReadings x = Check.fountain("ah.?");
        Check.dueRow("carve", i -> x.carve(i, 0), 97, 104, 46, 63);
        Check.dueRow("carve again", i -> x.carve(i, 8), 46, 46, 46, 46);
        Check.dueRow("carve once more", i -> x.carve(i, 8), 104, 104, 104, 104);
    }

    private static void notCarved() {
        Check.promise(15, "Throws `IndexOutOfBoundsException` if there is no such place");
        Outside.places("carve", (x, i) -> x.carve(i, 1));
        Check.promise(15, "Throws `IllegalArgumentException` if c is out of range");
        Outside.range("carve(0, c)", 0, 8, (x, c) -> x.carve(0, c));
        Check.refuses(Check::busy, "carve(0, 'a')", Check.ARGUMENT, x -> x.carve(0, 'a'));
    }

    private static void worn() {
        Check.promise(16, "A place becomes worn, if there is a letter; a divider never does.");
        RingReadings x = Check.fountain(".a?h.");
        for (int i = 0; i < 5; i++) {
            x.wear(i);
        }
        Check.due("the ring", Check.signs(x), ".???.");
        Check.promise(16, "Returns the worn places then.");
        RingReadings all = Check.fountain(ALL);
        for (int i = 23; i >= 0; i--) {
            Check.due("wear(" + i + ")", all.wear(i), 24 - i);
        }
        Check.due("wear(0) again", all.wear(0), 24);
        Check.due("wear(0) of a divider", Check.fountain(".").wear(0), 0);
        Check.due("wear(0) of one place", Check.fountain("a").wear(0), 1);
    }

    private static void notWorn() {
        Check.promise(16, "Throws `IndexOutOfBoundsException` if there is no such place");
        Outside.places("wear", (x, i) -> x.wear(i));
    }

    private static void inserted() {
        Check.promise(17, "`i`: the number that it has then, 0 to the number of places");
        for (int places = 0; places < 24; places++) {
            for (int i : new int[] {0, places / 2, places}) {
                String ring = ALL.substring(0, places);
                RingReadings x = Check.fountain(ring);
                Check.due("insert(" + i + ", 0)", x.insert(i, 0), places + 1);
                Check.due("the ring", Check.signs(x), ring.substring(0, i) + "." + ring.substring(i));
            }
        }
        Check.promise(17, "`c`: 0 for the divider, 1 to 8 for a to h");
        RingReadings x = new RingReadings();
        for (int c = 0; c <= 8; c++) {
            x.insert(c, c);
        }
        Check.due("the ring", Check.signs(x), ".abcdefgh");
        Check.promise(17, "Returns the places then.");
        RingReadings y = new RingReadings();
        for (int places = 1; places <= 24; places++) {
            Check.due("insert(0, 1)", y.insert(0, 1), places);
        }
    }

    private static void notInserted() {
        Check.promise(17, "Throws `IndexOutOfBoundsException` if i is out of range");
        for (int i : Outside.numbers(0, 0)) {
            Check.refuses(RingReadings::new, "insert(" + i + ", 0) into none", Check.INDEX, x -> x.insert(i, 0));
        }
        for (int i : Outside.numbers(0, 6)) {
            Check.refuses(Check::busy, "insert(" + i + ", 1) into 6", Check.INDEX, x -> x.insert(i, 1));
        }
        Check.promise(17, "Throws `IllegalArgumentException` if c is out of range");
        Outside.anywhere("insert(0, c)", Check.ARGUMENT, 0, 8, (x, c) -> x.insert(0, c));
        Check.promise(17, "Throws `IllegalStateException` if there are 24");
        Check.due("into 23", Check.fountain(ALL.substring(1)).insert(23, 8), 24);
        for (int i : new int[] {0, 12, 23, 24}) {
            Check.refuses(Check::full, "insert(" + i + ", 1) into 24", Check.STATE, x -> x.insert(i, 1));
        }
    }

    private static void erased() {
        Check.promise(18, "Takes a place out of the ring.");
        for (int places = 1; places <= 24; places++) {
            for (int i : new int[] {0, places / 2, places - 1}) {
                String ring = ALL.substring(0, places);
                RingReadings x = Check.fountain(ring);
                x.erase(i);
                Check.due("the ring of " + places + " without " + i, Check.signs(x), ring.substring(0, i) + ring.substring(i + 1));
            }
        }
        Check.promise(18, "Returns the places then.");
        RingReadings x = Check.fountain(ALL);
        for (int places = 23; places >= 0; places--) {
            Check.due("erase(" + places / 2 + ")", x.erase(places / 2), places);
        }
        Check.due("a first place then", x.insert(0, 0), 1);
    }

    private static void notErased() {
        Check.promise(18, "Throws `IndexOutOfBoundsException` if there is no such place");
        Outside.places("erase", (x, i) -> x.erase(i));
        RingReadings x = Check.fountain("a");
        x.erase(0);
        Check.refused(x, "erase(0) behind the last one", Check.INDEX, () -> x.erase(0));
    }

    private static void walkerAdded() {
        Check.promise(19, "`direction`: 0 or 1");
        added(0, 0, 1, 1);
        added(0, 1, 1, 1);
        Check.promise(19, "`pace`: 1 to 3");
        added(23, 0, 2, 1);
        added(23, 0, 3, 1);
        Check.promise(19, "`sight`: 1 to 5");
        added(0, 1, 1, 4);
        added(23, 1, 3, 5);
        Check.promise(19, "Returns the number of the walker.");
        RingReadings x = Check.fountain("a");
        for (int w = 0; w < 4; w++) {
            Check.due("addWalker", x.addWalker(0, 0, 1, 1), w);
        }
        x.undo();
        Check.due("addWalker behind undo()", x.addWalker(0, 0, 1, 1), 3);
        x.ring();
        Check.due("addWalker behind ring()", x.addWalker(0, 0, 1, 1), 0);
    }

    private static void added(int i, int direction, int pace, int sight) {
        RingReadings x = Check.fountain(ALL);
        x.addWalker(i, direction, pace, sight);
        Check.dueRow("the walker", what -> x.walker(0, what), i, direction, pace, sight, sight, 0, 0);
    }

    private static void walkerSeesAtOnce() {
        Check.promise(19, "Adds a walker, who sees at once.");
        for (int places = 1; places <= 6; places++) {
            RingReadings x = Check.fountain(ALL.substring(0, places));
            for (int sight = 2; sight <= 5; sight++) {
                x.addWalker(places - 1, sight % 2, 1, sight);
                Check.due("seen by the sight " + sight + " of " + places, x.walker(sight - 2, 4), Math.min(sight, places));
            }
        }
        RingReadings x = Check.fountain("b.a.");
        x.addWalker(3, 0, 1, 2);
        x.go(4);
        x.erase(3);
        x.addWalker(2, 0, 1, 2);
        Check.due("seen by a new one in the place of another", x.walker(0, 4), 2);
    }

    private static void noWalkerAdded() {
        Check.promise(19, "Throws `IndexOutOfBoundsException` if there is no such place or direction");
        Outside.places("addWalker(i, 0, 1, 1)", (x, i) -> x.addWalker(i, 0, 1, 1));
        Outside.directions("addWalker(0, direction, 1, 1)", (x, d) -> x.addWalker(0, d, 1, 1));
        Check.promise(19, "Throws `IllegalArgumentException` if another argument is out of range");
        Outside.range("addWalker(0, 0, pace, 1)", 1, 3, (x, pace) -> x.addWalker(0, 0, pace, 1));
        Outside.range("addWalker(5, 1, 3, sight)", 1, 5, (x, sight) -> x.addWalker(5, 1, 3, sight));
        Check.refuses(Check::busy, "addWalker(5, 1, 5, 3)", Check.ARGUMENT, x -> x.addWalker(5, 1, 5, 3));
        Check.promise(19, "Throws `IllegalStateException` if there are 4");
        RingReadings three = Check.busy();
        three.addWalker(0, 0, 1, 1);
        Check.due("the fourth", three.addWalker(0, 0, 1, 1), 3);
        Check.refused(three, "the fifth", Check.STATE, () -> three.addWalker(0, 0, 1, 1));
        Check.refuses(Check::full, "the fifth", Check.STATE, x -> x.addWalker(0, 0, 1, 1));
        Check.refuses(Check::full, "the fifth", Check.STATE, x -> x.addWalker(23, 1, 3, 5));
    }

    private static void turned() {
        Check.promise(20, "A walker turns round: the direction is the other one then; sees at once.");
        RingReadings x = Check.fountain("a.b.cd");
        x.addWalker(0, 0, 1, 3);
        x.addWalker(5, 1, 1, 4);
        x.turn(0);
        Check.dueRow("walker 0", what -> x.walker(0, what), 0, 1, 1, 3, 5, 0);
        x.turn(1);
        Check.dueRow("walker 1", what -> x.walker(1, what), 5, 0, 1, 4, 6, 2);
        x.turn(0);
        Check.due("back again", x.walker(0, 1), 0);
        Check.promise(20, "Returns the places that were seen then, how many.");
        Check.due("turn(0) of one place", oneWalker("a", 0, 0, 5).turn(0), 1);
        Check.due("turn(0) of two places", oneWalker("ab", 0, 0, 1).turn(0), 1);
        Check.due("turn(0) at the place 0", oneWalker(ALL, 0, 0, 5).turn(0), 9);
        Check.due("turn(0) at the last place", oneWalker(ALL, 23, 0, 5).turn(0), 9);
        Check.due("turn(0) of eight places", oneWalker("abcdefgh", 7, 1, 5).turn(0), 8);
        RingReadings four = Check.full();
        Check.due("turn(3)", four.turn(3), four.walker(3, 4));
        Check.due("the direction of the last one", four.walker(3, 1), 0);
        Check.due("the direction of another one", four.walker(1, 1), 1);
    }

    private static RingReadings oneWalker(String ring, int place, int direction, int sight) {
        RingReadings x = Check.fountain(ring);
        x.addWalker(place, direction, 1, sight);
        return x;
    }

    private static void notTurned() {
        Check.promise(20, "Throws `IndexOutOfBoundsException` if there is no such walker");
        Outside.walkers("turn", (x, w) -> x.turn(w));
    }

    private static void gone() {
        Check.promise(21, "All walkers go some steps.");
        for (int steps : new int[] {1, 2, 24, 49, 50}) {
            RingReadings x = Check.fountain(ALL);
            for (int w = 0; w < 4; w++) {
                x.addWalker(w * 7, w % 2, 1 + w % 3, 1);
            }
            x.go(steps);
            for (int w = 0; w < 4; w++) {
                int moved = steps * (1 + w % 3);
                Check.due("the place of " + w + " behind " + steps, x.walker(w, 0), Math.floorMod(w % 2 == 0 ? w * 7 + moved : w * 7 - moved, 24));
            }
            Check.due("the steps", x.about(5), steps);
        }
        Check.promise(21, "`n`: 1 to 50");
        RingReadings none = new RingReadings();
        Check.due("go(1) without places", none.go(1), 0);
        Check.due("go(50) without places", none.go(50), 0);
        Check.due("the steps", none.about(5), 51);
        RingReadings alone = Check.fountain(".a");
        Check.due("go(50) without walkers", alone.go(50), 0);
    }

    private static void knownByAll() {
        Check.promise(21, "Returns the segments that all of them know then, together (one that is known by two counts twice).");
        RingReadings x = Check.fountain(".a.a.a.a.a.a.a.a.a.a.a.a");
        x.addWalker(0, 0, 1, 1);
        Check.due("go(1) of one", x.go(1), 0);
        Check.due("go(1) of one", x.go(1), 1);
        x.addWalker(2, 1, 1, 3);
        Check.due("go(1) of two", x.go(1), 2);
        Check.due("go(50) of two", x.go(50), 24);
        x.addWalker(0, 0, 1, 5);
        x.addWalker(0, 0, 2, 1);
        Check.due("go(50) of four", x.go(50), 36);
        x.turn(3);
        Check.due("go(1) of one that sees too little", x.go(1), 36);
    }

    private static void notGone() {
        Check.promise(21, "Throws `IllegalArgumentException` if n is out of range");
        Outside.anywhere("go", Check.ARGUMENT, 1, 50, (x, n) -> x.go(n));
    }
}
