/** Promises 5 to 11: about, at, letter, reading, segment, find, walker. */
public final class WhatThereIsTest {
    public static void main(String[] args) {
        numbers();
        beginnings();
        periods();
        mirrors();
        places();
        letters();
        readings();
        greatReadings();
        segments();
        findings();
        walkers();
        knowing();
        Check.finish();
    }

    private static void numbers() {
        RingReadings x = Check.fountain("a.?b??.c", "a", "bb", "a");
        x.addWalker(0, 0, 1, 1);
        x.addWalker(1, 1, 2, 2);
        x.go(7);
        x.go(50);
        Check.dueRow("about", x::about, 8, 2, 3, 3, 2, 57, 1, 8, 0);
        Check.refused(x, "about(-1)", Check.ARGUMENT, () -> x.about(-1));
        Check.refused(x, "about(9)", Check.ARGUMENT, () -> x.about(9));
        RingReadings alone = new RingReadings();
        alone.go(3);
        Check.due("the steps without walkers", alone.about(5), 3);
        Check.write(alone, "a").ring();
        Check.due("the steps behind ring()", alone.about(5), 3);
    }

    private static void beginnings() {
        about("a", 6, 0);
        about("ba", 6, 1);
        about("cabab", 6, 1);
        about("abac", 6, 0);
        about("acab", 6, 2);
        about("h?.", 6, 2);
        about("a?", 6, 1);
        about("?.", 6, 1);
        about(".a.", 6, 2);
        about("b.a?.aa.", 6, 1);
        about("b.aa.a?.", 6, 4);
        about("baba", 6, 1);
        about("hhh", 6, 0);
        about("hgfedcbahgfedcbahgfedcba", 6, 7);
    }

    private static void periods() {
        about("a", 7, 1);
        about("aaaa", 7, 1);
        about("abab", 7, 2);
        about("ababa", 7, 5);
        about("abcabc", 7, 3);
        about("aabaab", 7, 3);
        about("a?", 7, 2);
        about("abaaba", 7, 3);
        about("abcdefgh.?ababcdefgh.?ab", 7, 12);
    }

    private static void mirrors() {
        about("a", 8, 1);
        about("ab", 8, 1);
        about("abc", 8, 0);
        about("aab", 8, 1);
        about("abab", 8, 1);
        about("abac", 8, 1);
        about("abcd", 8, 0);
        about("abcb", 8, 1);
        about("a?b.", 8, 0);
        about("aabbab", 8, 0);
        about("aabb", 8, 1);
    }

    private static void about(String ring, int what, int want) {
        Check.due("about(" + what + ") of " + ring, Check.fountain(ring).about(what), want);
    }

    private static void places() {
        RingReadings x = Check.fountain("ah.?");
        Check.dueRow("at", x::at, 97, 104, 46, 63);
        Check.refused(x, "at(-1)", Check.INDEX, () -> x.at(-1));
        Check.refused(x, "at(4)", Check.INDEX, () -> x.at(4));
        Check.refused(x, "at(24)", Check.INDEX, () -> x.at(24));
        RingReadings full = Check.fountain("abcdefghabcdefghabcdefg.");
        Check.due("at(23)", full.at(23), 46);
        Check.refused(full, "at(24) of 24", Check.INDEX, () -> full.at(24));
    }

    private static void letters() {
        RingReadings x = Check.fountain("", "ab", "hgfedc");
        Check.dueRow("letter of 0", i -> x.letter(0, i), 97, 98, -1, -1, -1, -1, -1);
        Check.dueRow("letter of 1", i -> x.letter(1, i), 104, 103, 102, 101, 100, 99, -1);
        Check.due("a far letter", x.letter(0, Integer.MAX_VALUE), -1);
        Check.refused(x, "letter(2, 0)", Check.INDEX, () -> x.letter(2, 0));
        Check.refused(x, "letter(-1, 0)", Check.INDEX, () -> x.letter(-1, 0));
        Check.refused(x, "letter(0, -1)", Check.ARGUMENT, () -> x.letter(0, -1));
        Check.refused(x, "letter(2, -1)", Check.INDEX, () -> x.letter(2, -1));
    }

    private static void readings() {
        RingReadings x = Check.fountain("ab.c?.ba", "baab", "cd", "ca", "dc", "abba");
        Check.dueRow("reading of 0", what -> x.reading(0, what), 2, 2, 2, 4);
        Check.dueRow("reading of 1", what -> x.reading(1, what), 2, 2, 1, 4);
        x.removeWord(0);
        Check.dueRow("reading of 0, one segment without words", what -> x.reading(0, what), 2, 1, 0, 4);
        Check.refused(x, "reading(2, 0)", Check.INDEX, () -> x.reading(2, 0));
        Check.refused(x, "reading(-1, 0)", Check.INDEX, () -> x.reading(-1, 0));
        Check.refused(x, "reading(0, -1)", Check.ARGUMENT, () -> x.reading(0, -1));
        Check.refused(x, "reading(1, 4)", Check.ARGUMENT, () -> x.reading(1, 4));
        Check.refused(x, "reading(2, 4)", Check.INDEX, () -> x.reading(2, 4));
        reading("abc", 0, 0, 0, 0);
        reading("...", 0, 0, 0, 0);
        reading(".", 0, 0, 0, 0);
        reading(".a", 1, 1, 1, 1);
        reading("bc.a", 1, 1, 1, 3);
        reading("a.a", 1, 0, 0, 2);
        reading("abc.abc.", 2, 2, 1, 3);
        reading(".ab.", 1, 0, 0, 2);
    }

    private static void reading(String ring, long... want) {
        RingReadings x = Check.fountain(ring, "abc", "a");
        Check.dueRow("reading of " + ring, what -> x.reading(0, what), want);
    }

    private static void greatReadings() {
        RingReadings x = Check.fountain(".a.?.a.?.a.?", "a", "a", "a", "a", "a", "a", "a", "a", "a", "a");
        Check.due("ten words for six segments", x.reading(0, 2), 1000000);
        RingReadings more = Check.fountain(".a.?.a.?.a.?.a.a.a.a.a.a", "a", "a", "a", "a", "a", "a", "a", "a", "a", "a");
        Check.due("ten words for twelve segments", more.reading(1, 2), 1000000);
        more.removeWord(9);
        Check.due("nine words for twelve segments", more.reading(0, 2), 1000000);
        more.carve(23, 2);
        Check.due("one segment without a word", more.reading(0, 2), 0);
        RingReadings nearly = Check.fountain(".a.?.a.?.a.?.b", "a", "a", "a", "a", "a", "a", "a", "a", "a", "b");
        Check.due("just below the end", nearly.reading(0, 2), 729000);
    }

    private static void segments() {
        RingReadings x = Check.fountain("ab..c?d.?", "dca", "cad", "cbd", "bac", "cad");
        Check.due("segments", x.reading(0, 0), 2);
        Check.dueRow("segment(0, 0)", what -> x.segment(0, 0, what), 3, 3, 3, 1, 1);
        Check.dueRow("segment(0, 1)", what -> x.segment(0, 1, what), 7, 3, 0, -1, 1);
        Check.dueRow("segment(1, 0)", what -> x.segment(1, 0, what), 7, 3, 0, -1, 1);
        Check.dueRow("segment(1, 1)", what -> x.segment(1, 1, what), 2, 3, 1, 3, 1);
        Check.refused(x, "segment(0, 2, 0)", Check.INDEX, () -> x.segment(0, 2, 0));
        Check.refused(x, "segment(0, -1, 0)", Check.INDEX, () -> x.segment(0, -1, 0));
        Check.refused(x, "segment(2, 0, 0)", Check.INDEX, () -> x.segment(2, 0, 0));
        Check.refused(x, "segment(-1, 0, 0)", Check.INDEX, () -> x.segment(-1, 0, 0));
        Check.refused(x, "segment(0, 0, 5)", Check.ARGUMENT, () -> x.segment(0, 0, 5));
        Check.refused(x, "segment(0, 0, -1)", Check.ARGUMENT, () -> x.segment(0, 0, -1));
        Check.refused(x, "segment(0, 2, 5)", Check.INDEX, () -> x.segment(0, 2, 5));
        RingReadings one = Check.fountain("?b.d?", "dabb", "bhd");
        Check.dueRow("the segment behind one divider", what -> one.segment(0, 0, what), 2, 4, 1, 0, 2);
        Check.dueRow("the same against the order", what -> one.segment(1, 0, what), 2, 4, 0, -1, 2);
        RingReadings ends = Check.fountain(".a.bc.", "a", "cb");
        Check.dueRow("the segment behind place 0", what -> ends.segment(0, 0, what), 0, 1, 1, 0, 0);
        Check.dueRow("the next one", what -> ends.segment(0, 1, what), 2, 2, 0, -1, 0);
        Check.dueRow("the segment behind the last place", what -> ends.segment(1, 0, what), 5, 2, 1, 1, 0);
        Check.dueRow("the next one against the order", what -> ends.segment(1, 1, what), 2, 1, 1, 0, 0);
        RingReadings first = Check.fountain(".ab");
        Check.due("the divider at 0, against the order", first.segment(1, 0, 0), 0);
        RingReadings early = Check.fountain(".a.bc.?", "h", "cb");
        Check.dueRow("the dividers, with one at place 0", s -> early.segment(0, s, 0), 0, 2, 5);
        Check.dueRow("the dividers, with one at place 0, against the order", s -> early.segment(1, s, 0), 5, 2, 0);
        Check.dueRow("the segment over the end against the order", what -> early.segment(1, 2, what), 0, 1, 1, 0, 1);
        RingReadings none = Check.fountain("abc", "abc");
        Check.refused(none, "segment(0, 0, 0) without a divider", Check.INDEX, () -> none.segment(0, 0, 0));
    }

    private static void findings() {
        RingReadings x = Check.fountain("ab?b.a", "ab", "aab", "babab", "abb", "cd", "bb");
        Check.dueRow("find ab", k -> x.find(0, 0, k), 0, 2, -1);
        Check.dueRow("find ab against the order", k -> x.find(0, 1, k), 2, -1, -1);
        Check.dueRow("find aab", k -> x.find(1, 0, k), 5, -1);
        Check.dueRow("find babab", k -> x.find(2, 0, k), -1);
        Check.dueRow("find what is longer", k -> Check.fountain("aaaaa", "aaaaaa").find(0, 0, k), -1);
        Check.dueRow("find what is as long", k -> Check.fountain("aaaaaa", "aaaaaa").find(0, 1, k), 0, 1, 2, 3, 4, 5, -1);
        Check.dueRow("find over the end", k -> Check.fountain("bca", "abc").find(0, 0, k), 2, -1);
        Check.dueRow("find among worn places", k -> Check.fountain("??", "gh").find(0, 0, k), 0, 1, -1);
        Check.due("a far one", x.find(0, 0, Integer.MAX_VALUE), -1);
        Check.refused(x, "find(6, 0, 0)", Check.INDEX, () -> x.find(6, 0, 0));
        Check.refused(x, "find(-1, 0, 0)", Check.INDEX, () -> x.find(-1, 0, 0));
        Check.refused(x, "find(0, 2, 0)", Check.INDEX, () -> x.find(0, 2, 0));
        Check.refused(x, "find(0, -1, 0)", Check.INDEX, () -> x.find(0, -1, 0));
        Check.refused(x, "find(0, 0, -1)", Check.ARGUMENT, () -> x.find(0, 0, -1));
        Check.refused(x, "find(6, 0, -1)", Check.INDEX, () -> x.find(6, 0, -1));
        Check.refused(x, "find(0, 2, -1)", Check.INDEX, () -> x.find(0, 2, -1));
        RingReadings noRing = Check.fountain("", "a");
        Check.due("find without places", noRing.find(0, 0, 0), -1);
    }

    private static void walkers() {
        RingReadings x = Check.fountain("ab.cd.ef", "cd");
        x.addWalker(2, 0, 3, 4);
        x.addWalker(1, 1, 2, 5);
        Check.dueRow("walker 0", what -> x.walker(0, what), 2, 0, 3, 4, 4, 1, 1);
        Check.dueRow("walker 1", what -> x.walker(1, what), 1, 1, 2, 5, 5, 0, 0);
        Check.refused(x, "walker(2, 0)", Check.INDEX, () -> x.walker(2, 0));
        Check.refused(x, "walker(-1, 0)", Check.INDEX, () -> x.walker(-1, 0));
        Check.refused(x, "walker(0, 7)", Check.ARGUMENT, () -> x.walker(0, 7));
        Check.refused(x, "walker(0, -1)", Check.ARGUMENT, () -> x.walker(0, -1));
        Check.refused(x, "walker(2, 7)", Check.INDEX, () -> x.walker(2, 7));
        RingReadings small = Check.fountain("a.");
        small.addWalker(0, 0, 3, 5);
        Check.due("more sight than places", small.walker(0, 4), 2);
        small.go(1);
        Check.due("more pace than places", small.walker(0, 0), 1);
    }

    private static void knowing() {
        RingReadings x = Check.fountain("ab.cd.ef", "cd", "efab");
        x.addWalker(2, 0, 1, 3);
        Check.due("a divider not yet seen", x.walker(0, 5), 0);
        x.go(1);
        Check.due("both dividers seen", x.walker(0, 5), 1);
        Check.due("and a word fits", x.walker(0, 6), 1);
        x.carve(3, 8);
        Check.due("known, though carved", x.walker(0, 5), 1);
        Check.due("but no word fits", x.walker(0, 6), 0);
        x.turn(0);
        Check.due("known against the order", x.walker(0, 5), 1);
        x.carve(2, 0);
        x.carve(3, 0);
        Check.due("a shorter segment", x.walker(0, 5), 1);
        x.carve(4, 0);
        Check.due("no segment there", x.walker(0, 5), 0);
        RingReadings one = Check.fountain("a.b", "ba", "ab");
        one.addWalker(2, 0, 1, 2);
        Check.due("the divider not yet seen", one.walker(0, 5), 0);
        one.go(1);
        Check.dueRow("one divider alone", what -> one.walker(0, 5 + what), 1, 1);
        RingReadings first = Check.fountain(".ab.c", "ab", "c");
        first.addWalker(0, 0, 1, 4);
        Check.dueRow("the segment behind place 0", what -> first.walker(0, 5 + what), 1, 1);
        first.go(1);
        Check.dueRow("and the one before it", what -> first.walker(0, 5 + what), 2, 2);
        RingReadings none = Check.fountain("abc");
        none.addWalker(0, 0, 1, 5);
        Check.due("no divider, nothing known", none.walker(0, 5), 0);
    }
}
