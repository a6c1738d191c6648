/** The edges that the document names for promises 5 to 11: one test for each sentence. */
final class WhatThereIsEdges {
    private static final String ALL = "abcdefghabcdefghabcdefgh";
    private static final String TWELVE = ".a.b.c.d.e.f.g.h.a.b.c.d";

    private WhatThereIsEdges() {
    }

    static void run() {
        aboutLeast();
        aboutMost();
        aboutBeginning();
        aboutPeriod();
        aboutMirror();
        aboutRefused();
        standing();
        noSuchPlace();
        lettersOfWords();
        noSuchLetter();
        readingNumbers();
        noSuchReading();
        segmentNumbers();
        noSuchSegment();
        findInOrder();
        findWhereverDividersAre();
        findNothing();
        noSuchFind();
        walkerNumbers();
        noSuchWalker();
    }

    private static void aboutLeast() {
        Check.promise(5, "0: the places; 1: the dividers; 2: the worn places; 3: the words of the book; 4: the walkers; 5: the steps so far;");
        RingReadings none = new RingReadings();
        Check.dueRow("about of a new object", none::about, 0, 0, 0, 0, 0, 0);
        Check.dueRow("about of a letter", Check.fountain("a")::about, 1, 0, 0, 0, 0, 0);
        Check.dueRow("about of a divider", Check.fountain(".")::about, 1, 1, 0, 0, 0, 0);
        Check.dueRow("about of a worn place", Check.fountain("?", "a")::about, 1, 0, 1, 1, 0, 0);
        none.go(1);
        Check.due("one step", none.about(5), 1);
        none.insert(0, 1);
        Check.write(none, "ab").ring();
        none.erase(1);
        Check.due("one step, where the ring became another one", none.about(5), 1);
    }

    private static void aboutMost() {
        Check.promise(5, "Returns that number.");
        Check.due("the places", Check.fountain(ALL).about(0), 24);
        Check.due("the dividers", Check.fountain("........................").about(1), 24);
        Check.due("the worn places", Check.fountain("????????????????????????").about(2), 24);
        RingReadings full = Check.full();
        Check.dueRow("about", full::about, 24, 12, 1, 10, 4, 1 + 2 + 3 + 4);
        full.go(50);
        full.go(50);
        Check.due("the steps", full.about(5), 110);
        for (int what = 0; what <= 8; what++) {
            int w = what;
            Check.asks(Check::busy, "about(" + w + ")", x -> x.about(w), new int[] {6, 2, 2, 3, 2, 3, 5, 6, 0}[w]);
        }
    }

    private static void aboutBeginning() {
        Check.promise(5, "6: the beginning, NONE without places;");
        Check.due("without places", new RingReadings().about(6), -1);
        Check.due("of one place", Check.fountain("h").about(6), 0);
        Check.due("the last of 24", Check.fountain("bbbbbbbbbbbbbbbbbbbbbbba").about(6), 23);
        RingReadings x = Check.fountain("a");
        x.erase(0);
        Check.due("without places again", x.about(6), -1);
    }

    private static void aboutPeriod() {
        Check.promise(5, "7: the period, 0 without places;");
        Check.due("without places", new RingReadings().about(7), 0);
        Check.due("of one place", Check.fountain("h").about(7), 1);
        Check.due("of 24 places", Check.fountain("aaaaaaaaaaaaaaaaaaaaaaab").about(7), 24);
        RingReadings x = Check.fountain("a");
        x.erase(0);
        Check.due("without places again", x.about(7), 0);
    }

    private static void aboutMirror() {
        Check.promise(5, "8: 1 if the ring can be turned so that it is as read from some place in the direction 1, otherwise 0 (1 without places)");
        mirror("", 1);
        mirror("a", 1);
        mirror(".", 1);
        mirror("ab", 1);
        mirror("abc", 0);
        mirror("abb", 1);
        mirror("bab", 1);
        mirror("bba", 1);
        mirror("a.?", 0);
        mirror("abca", 0);
        mirror("abcb", 1);
        mirror("bcba", 1);
        mirror("aaaaaaaaaaaaaaaaaaaaaaab", 1);
        mirror("aaaaaaaaaaabaaaaaaaaaaac", 1);
        mirror("aaaaaaaaaabaaaaaaaaaaaac", 0);
        mirror("abcdefghgfedcbabcdefgfed", 0);
        mirror("abcdefghhgfedcbaabccccba", 1);
    }

    private static void mirror(String ring, int want) {
        Check.due("about(8) of " + ring, Check.fountain(ring).about(8), want);
    }

    private static void aboutRefused() {
        Check.promise(5, "Throws `IllegalArgumentException` if what is not 0 to 8");
        Outside.anywhere("about", Check.ARGUMENT, 0, 8, (x, what) -> x.about(what));
    }

    private static void standing() {
        Check.promise(6, "Returns the code of the letter, the point, or the question mark.");
        RingReadings x = Check.fountain("a..?h");
        Check.dueRow("at", x::at, 97, 46, 46, 63, 104);
        Check.due("the last of 24", Check.fountain(ALL).at(23), 104);
        Check.asks(Check::busy, "at(5)", y -> y.at(5), 46);
    }

    private static void noSuchPlace() {
        Check.promise(6, "Throws `IndexOutOfBoundsException` if there is no such place");
        Outside.places("at", (x, i) -> x.at(i));
        RingReadings x = Check.fountain("ab");
        x.erase(0);
        Check.refused(x, "at(1) that was taken out", Check.INDEX, () -> x.at(1));
    }

    private static void lettersOfWords() {
        Check.promise(7, "`i`: index, from 0");
        Check.due("letter(0, 0)", Check.fountain("", "h").letter(0, 0), 104);
        Check.due("letter(0, 5)", Check.fountain("", "abcdef").letter(0, 5), 102);
        Check.refuses(Check::full, "letter(9, -1)", Check.ARGUMENT, x -> x.letter(9, -1));
        Check.promise(7, "Returns the code of the letter; NONE if the word is not so long.");
        RingReadings x = Check.fountain("", "h", "abcdef", "g");
        Check.dueRow("letter of one letter", i -> x.letter(0, i), 104, -1, -1, -1, -1, -1, -1);
        Check.dueRow("letter of six letters", i -> x.letter(1, i), 97, 98, 99, 100, 101, 102, -1, -1);
        Check.due("the letter 59", x.letter(0, 59), -1);
        Check.due("the last letter of all", x.letter(0, Integer.MAX_VALUE), -1);
        x.removeWord(1);
        Check.dueRow("letter of a word that stands where a longer one stood", i -> x.letter(1, i), 103, -1, -1);
        Check.due("a letter of word 9", Check.full().letter(9, 0), 'a');
    }

    private static void noSuchLetter() {
        Check.promise(7, "Throws `IndexOutOfBoundsException` if there is no such word");
        Outside.words("letter(w, 0)", (x, w) -> x.letter(w, 0));
        Check.promise(7, "Throws `IllegalArgumentException` if i is negative");
        Check.due("letter(0, 0)", Check.busy().letter(0, 0), 'a');
        Check.refuses(Check::busy, "letter(0, -1)", Check.ARGUMENT, x -> x.letter(0, -1));
        Check.refuses(Check::busy, "letter(2, the least)", Check.ARGUMENT, x -> x.letter(2, Integer.MIN_VALUE));
    }

    private static void readingNumbers() {
        Check.promise(8, "`what`: 0: the segments; 1: the sense; 2: the readings; 3: the places of the longest segment, 0 without one");
        reading("", 0, 0, 0, 0);
        reading("a", 0, 0, 0, 0);
        reading(".", 0, 0, 0, 0);
        reading("..", 0, 0, 0, 0);
        reading(".a", 1, 1, 1, 1);
        reading(".aa", 1, 0, 0, 2);
        reading(".b.a", 2, 1, 0, 1);
        reading("a.bb..", 2, 1, 0, 2);
        reading("bb.a..", 2, 1, 0, 2);
        reading("b..a.b", 2, 1, 0, 2);
        reading(".aaaaaaaaaaaaaaaaaaaaaaa", 1, 0, 0, 23);
        reading(".a.a.a.a.a.a.a.a.a.a.a.a", 12, 12, 1, 1);
        Check.promise(8, "Returns that number.");
        Check.asks(Check::busy, "reading(0, 3)", x -> x.reading(0, 3), 2);
        Check.asks(Check::full, "reading(1, 2)", x -> x.reading(1, 2), 0);
    }

    private static void reading(String ring, long... want) {
        for (int direction = 0; direction <= 1; direction++) {
            int d = direction;
            RingReadings x = Check.fountain(ring, "a");
            Check.dueRow("reading of " + ring + " in the direction " + d, what -> x.reading(d, what), want);
        }
    }

    private static void noSuchReading() {
        Check.promise(8, "`direction`: 0 or 1");
        Check.due("reading(0, 0)", Check.fountain(".a").reading(0, 0), 1);
        Check.due("reading(1, 0)", Check.fountain(".a").reading(1, 0), 1);
        Check.promise(8, "Throws `IndexOutOfBoundsException` if there is no such direction");
        Outside.directions("reading(direction, 3)", (x, d) -> x.reading(d, 3));
        Check.promise(8, "Throws `IllegalArgumentException` if what is not 0 to 3");
        Outside.anywhere("reading(0, what)", Check.ARGUMENT, 0, 3, (x, what) -> x.reading(0, what));
        Outside.anywhere("reading(1, what)", Check.ARGUMENT, 0, 3, (x, what) -> x.reading(1, what));
    }

    private static void segmentNumbers() {
        Check.promise(9, "`direction`: 0 or 1");
        Check.due("segment(0, 0, 0)", Check.fountain(".a.").segment(0, 0, 0), 0);
        Check.due("segment(1, 0, 0)", Check.fountain(".a.").segment(1, 0, 0), 2);
        Check.promise(9, "`what`: 0: the place of the divider ahead of it; 1: its places, how many; 2: the words that fit it; "
            + "3: the lowest one of these, NONE without one; 4: its worn places");
        segment(".a", 0, 0, 1, 0, -1, 0);
        segment(".?", 0, 0, 1, 10, 0, 1, "a", "a", "a", "a", "a", "a", "a", "a", "a", "a");
        segment(".b", 0, 0, 1, 1, 9, 0, "a", "a", "a", "a", "a", "a", "a", "a", "a", "b");
        segment(".b", 0, 0, 1, 2, 1, 0, "a", "b", "b");
        segment("???????????????????????.", 0, 23, 23, 0, -1, 23, "a");
        segment("?????.a", 0, 5, 6, 1, 0, 5, "abcdef");
        segment(TWELVE, 11, 22, 1, 1, 1, 0, "a", "d");
        segment("a.b.c.d.e.f.g.h.a.b.c.d.", 11, 23, 1, 1, 0, 0, "a", "d");
        Check.promise(9, "Returns that number.");
        Check.asks(Check::busy, "segment(0, 1, 2)", x -> x.segment(0, 1, 2), 0);
        Check.asks(Check::full, "segment(1, 11, 4)", x -> x.segment(1, 11, 4), 0);
    }

    private static void segment(String ring, int s, long divider, long places, long words, long lowest, long worn, String... book) {
        RingReadings x = Check.fountain(ring, book);
        Check.dueRow("segment(0, " + s + ") of " + ring, what -> x.segment(0, s, what), divider, places, words, lowest, worn);
    }

    private static void noSuchSegment() {
        Check.promise(9, "Throws `IndexOutOfBoundsException` if there is no such direction or segment");
        Outside.directions("segment(direction, 0, 0)", (x, d) -> x.segment(d, 0, 0));
        Outside.segments("segment(0, s, 0)", (x, s) -> x.segment(0, s, 0));
        Outside.segments("segment(1, s, 4)", (x, s) -> x.segment(1, s, 4));
        Check.refuses(() -> Check.fountain("ab"), "segment(1, 0, 0) without a divider", Check.INDEX, x -> x.segment(1, 0, 0));
        Check.refuses(() -> Check.fountain("."), "segment(0, 0, 0) of no place", Check.INDEX, x -> x.segment(0, 0, 0));
        Check.promise(9, "Throws `IllegalArgumentException` if what is not 0 to 4");
        Outside.range("segment(0, 0, what)", 0, 4, (x, what) -> x.segment(0, 0, what));
        Outside.range("segment(1, 1, what)", 0, 4, (x, what) -> x.segment(1, 1, what));
    }

    private static void findInOrder() {
        Check.promise(10, "`direction`: 0 or 1");
        Check.due("find(0, 0, 0)", Check.fountain("abc", "ab").find(0, 0, 0), 0);
        Check.due("find(0, 1, 0)", Check.fountain("cba", "ab").find(0, 1, 0), 2);
        Check.promise(10, "`k`: which place, from 0, the lowest one first");
        RingReadings x = Check.fountain("aaaaaaaaaaaaaaaaaaaaaaaa", "aaaaaa");
        for (int k = 0; k < 24; k++) {
            Check.due("find(0, 0, " + k + ")", x.find(0, 0, k), k);
            Check.due("find(0, 1, " + k + ")", x.find(0, 1, k), k);
        }
        RingReadings y = Check.fountain("b?ab", "ab");
        Check.dueRow("find ab", k -> y.find(0, 0, k), 2, -1);
        Check.dueRow("find ab against the order", k -> y.find(0, 1, k), 1, 2, -1);
        RingReadings z = Check.fountain("ba?bb", "ab");
        Check.dueRow("find ab", k -> z.find(0, 0, k), 1, 2, -1);
        Check.dueRow("find ab against the order", k -> z.find(0, 1, k), 1, -1);
    }

    private static void findWhereverDividersAre() {
        Check.promise(10, "Finds a word in the ring, wherever dividers are.");
        Check.due("without a divider", Check.fountain("hab", "ab").find(0, 0, 0), 1);
        Check.due("inside of a longer segment", Check.fountain(".habh", "ab").find(0, 0, 0), 2);
        Check.due("over a divider", Check.fountain("a.b", "ab").find(0, 0, 0), -1);
        Check.due("a divider is no letter", Check.fountain("...", "a").find(0, 0, 0), -1);
        Check.due("next to a divider", Check.fountain("b.a", "ab").find(0, 0, 0), 2);
        Check.promise(10, "Returns the place from which, in this direction, its letters stand (or worn ones),");
        Check.due("the last place, over the end", Check.fountain("bca", "abc").find(0, 0, 0), 2);
        Check.due("the place 0, over the end", Check.fountain("acb", "abc").find(0, 1, 0), 0);
        Check.due("worn places alone", Check.fountain("??????", "abcdef").find(0, 1, 5), 5);
        Check.due("the last letter is another one", Check.fountain("abcdeh", "abcdef").find(0, 0, 0), -1);
        Check.due("the first letter is another one", Check.fountain("hbcdef", "abcdef").find(0, 0, 0), -1);
        Check.due("one place", Check.fountain("a", "a").find(0, 1, 0), 0);
        Check.asks(Check::busy, "find(1, 0, 0)", x -> x.find(1, 0, 0), 3);
    }

    private static void findNothing() {
        Check.promise(10, "NONE if there are not so many places, or the ring has fewer places than the word.");
        Check.due("just as many places", Check.fountain("aaaaaa", "aaaaaa").find(0, 0, 5), 5);
        Check.due("one more", Check.fountain("aaaaaa", "aaaaaa").find(0, 0, 6), -1);
        Check.due("the greatest k", Check.fountain("aaaaaa", "aaaaaa").find(0, 0, Integer.MAX_VALUE), -1);
        Check.due("one place fewer than the word has letters", Check.fountain("aaaaa", "aaaaaa").find(0, 0, 0), -1);
        Check.due("one worn place", Check.fountain("?", "aa").find(0, 1, 0), -1);
        Check.due("without places", Check.fountain("", "a").find(0, 0, 0), -1);
        Check.due("25 in 24 places", Check.full().find(0, 0, 24), -1);
    }

    private static void noSuchFind() {
        Check.promise(10, "Throws `IndexOutOfBoundsException` if there is no such word or direction");
        Outside.words("find(w, 0, 0)", (x, w) -> x.find(w, 0, 0));
        Outside.directions("find(0, direction, 0)", (x, d) -> x.find(0, d, 0));
        Check.promise(10, "Throws `IllegalArgumentException` if k is negative");
        Check.refuses(Check::busy, "find(0, 0, -1)", Check.ARGUMENT, x -> x.find(0, 0, -1));
        Check.refuses(Check::busy, "find(2, 1, the least)", Check.ARGUMENT, x -> x.find(2, 1, Integer.MIN_VALUE));
    }

    private static void walkerNumbers() {
        Check.promise(11, "`what`: 0: the place; 1: the direction; 2: the pace; 3: the sight; 4: the places that were seen, how many; "
            + "5: the segments that are known, how many; 6: the segments that are known and that some word fits, how many");
        walker(".", 0, 0, 1, 1, 0, 1, 0, 0);
        walker(".a", 0, 0, 1, 1, 0, 1, 0, 0);
        walker(".a", 1, 1, 3, 5, 0, 2, 1, 1);
        walker(".b", 1, 1, 3, 5, 0, 2, 1, 0);
        walker(TWELVE, 23, 0, 1, 1, 24, 24, 12, 2);
        walker(TWELVE, 0, 1, 1, 1, 23, 24, 12, 2);
        walker(TWELVE, 0, 1, 1, 1, 22, 23, 11, 1);
        walker(ALL, 23, 1, 3, 5, 50, 24, 0, 0);
        walker(TWELVE, 0, 0, 2, 1, 50, 12, 0, 0);
        Check.promise(11, "Returns that number.");
        Check.asks(Check::busy, "walker(1, 4)", x -> x.walker(1, 4), 6);
        Check.asks(Check::full, "walker(3, 5)", x -> x.walker(3, 5), 6);
    }

    private static void walker(String ring, int place, int direction, int pace, int sight, int steps, long seen, long known, long fitted) {
        RingReadings x = Check.fountain(ring, "a");
        x.addWalker(place, direction, pace, sight);
        if (steps > 0) {
            x.go(steps);
        }
        int moved = direction == 0 ? steps * pace : -steps * pace;
        Check.dueRow("the walker on " + ring + " behind " + steps, what -> x.walker(0, what),
            Math.floorMod(place + moved, ring.length()), direction, pace, sight, seen, known, fitted);
    }

    private static void noSuchWalker() {
        Check.promise(11, "Throws `IndexOutOfBoundsException` if there is no such walker");
        Outside.walkers("walker(w, 0)", (x, w) -> x.walker(w, 0));
        Check.promise(11, "Throws `IllegalArgumentException` if what is not 0 to 6");
        Outside.range("walker(0, what)", 0, 6, (x, what) -> x.walker(0, what));
    }
}
