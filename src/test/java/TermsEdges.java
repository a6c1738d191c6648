import java.util.function.ToIntFunction;

/** The edges that the document names in its sections ahead of the promises: one test for each sentence. */
final class TermsEdges {
    private static final String ALL = "abcdefghabcdefghabcdefgh";

    private TermsEdges() {
    }

    static void run() {
        lastCall();
        none();
        places();
        ringIsClosed();
        signs();
        directions();
        dividersAndSegments();
        dividersDoNotBelong();
        segmentNumbers();
        noDivider();
        book();
        fitting();
        wordTwice();
        sense();
        readings();
        orderOfSigns();
        beginning();
        period();
        walkersAtMost();
        paceAndSight();
        seeing();
        passedBy();
        knowing();
        walkersGoAway();
    }

    private static void term(String words) {
        Check.sentence("Terms", words);
    }

    private static void lastCall() {
        Check.sentence("What it is", "An object is used for at most 512 calls after it has been made");
        RingReadings x = new RingReadings();
        for (int calls = 1; calls <= 511; calls++) {
            x.go(50);
        }
        Check.due("about(5) as the 512th call", x.about(5), 511 * 50);
        RingReadings y = new RingReadings();
        y.append('a');
        y.ring();
        for (int calls = 3; calls <= 510; calls++) {
            y.carve(0, calls % 8 + 1);
        }
        Check.due("undo() as the 511th call", y.undo(), 13);
        Check.due("at(0) as the 512th call", y.at(0), 'a' + 509 % 8);
    }

    private static void none() {
        term("The constants: `NONE = -1`: There is no such result.");
        Check.due("NONE", RingReadings.NONE, -1);
        Check.due("a result that is none", new RingReadings().about(6), RingReadings.NONE);
    }

    private static void places() {
        term("The ring has 0 to 24 places, numbered from 0 one behind the other; behind the last one comes the place 0 again.");
        Check.due("no place", new RingReadings().about(0), 0);
        Check.refuses(RingReadings::new, "at(0) of no place", Check.INDEX, x -> x.at(0));
        Check.due("one place", Check.fountain("h").at(0), 'h');
        Check.refuses(() -> Check.fountain("h"), "at(1) of one place", Check.INDEX, x -> x.at(1));
        RingReadings most = Check.fountain(ALL);
        Check.due("24 places", most.about(0), 24);
        for (int i = 0; i < 24; i++) {
            Check.due("at(" + i + ")", most.at(i), 'a' + i % 8);
        }
        Check.refuses(() -> Check.fountain(ALL), "at(24) of 24", Check.INDEX, x -> x.at(24));
        Check.refuses(() -> Check.write(new RingReadings(), ALL + "a"), "ring() of 25", Check.STATE, RingReadings::ring);
        Check.refuses(() -> Check.fountain(ALL), "a 25th place", Check.STATE, x -> x.insert(24, 1));
    }

    private static void ringIsClosed() {
        term("behind the last one comes the place 0 again.");
        for (int places = 1; places <= 24; places++) {
            for (int pace = 1; pace <= 3; pace++) {
                RingReadings x = Check.fountain(ALL.substring(0, places));
                x.addWalker(places - 1, 0, pace, 1);
                x.addWalker(0, 1, pace, 1);
                x.go(1);
                Check.due("behind the last of " + places, x.walker(0, 0), (pace - 1) % places);
                Check.due("ahead of the first of " + places, x.walker(1, 0), Math.floorMod(-pace, places));
            }
        }
        RingReadings x = Check.fountain("c.ab", "abc", "cba");
        Check.due("a segment over the end", x.segment(0, 0, 3), 0);
        Check.due("a segment over the end, against the order", x.segment(1, 0, 3), 1);
        Check.due("a word over the end", x.find(0, 0, 0), 2);
        Check.due("a word over the end, against the order", x.find(1, 1, 0), 0);
    }

    private static void signs() {
        term("At each place there is a letter, a to h, a divider, written as a point, or a worn letter, written as a question mark.");
        RingReadings x = Check.fountain("ah.?");
        Check.dueRow("at", x::at, 97, 104, 46, 63);
        x.carve(0, 0);
        x.carve(2, 1);
        x.carve(3, 8);
        x.wear(1);
        Check.dueRow("at", x::at, 46, 63, 97, 104);
        for (char other : new char[] {'`', 'i', 'A', 'H', '-', '/', '>', '@', ' ', 0, 255}) {
            Check.refuses(() -> Check.write(new RingReadings(), "a" + other), "ring() with the sign " + (int) other, Check.STATE, RingReadings::ring);
        }
    }

    private static void directions() {
        term("The two directions are 0, in the order of the places, and 1, against it.");
        RingReadings x = Check.fountain("abc", "ab", "ba");
        Check.due("in the order", x.find(0, 0, 0), 0);
        Check.due("against it", x.find(0, 1, 0), -1);
        Check.due("in the order", x.find(1, 0, 0), -1);
        Check.due("against it", x.find(1, 1, 0), 1);
        Outside.directions("reading", (y, d) -> y.reading(d, 0));
        Outside.directions("segment", (y, d) -> y.segment(d, 0, 0));
        Outside.directions("find", (y, d) -> y.find(0, d, 0));
        Outside.directions("addWalker", (y, d) -> y.addWalker(0, d, 1, 1));
        Outside.directions("ifWorn", (y, d) -> y.ifWorn(0, d));
        Outside.directions("bestDivider", (y, d) -> y.bestDivider(d, 0));
        Outside.directions("canBe", (y, d) -> y.canBe(0, d));
    }

    private static void dividersAndSegments() {
        term("A segment, in a direction, is what stands between a divider and the next divider in this direction "
            + "(with one divider alone, between it and itself), if that is at least one place;");
        for (int direction = 0; direction <= 1; direction++) {
            segments(".", direction, 0, 0);
            segments("..", direction, 0, 0);
            segments("........................", direction, 0, 0);
            segments("..a", direction, 1, 1);
            segments(".a.", direction, 1, 1);
            segments("a..", direction, 1, 1);
            segments(".?", direction, 1, 1);
            segments("?.", direction, 1, 1);
            segments(".abcdefghabcdefghabcdefg", direction, 1, 23);
            segments("abcdefghabcdefghabcdefg.", direction, 1, 23);
            segments("abcdefgh.abcdefghabcdefg", direction, 1, 23);
            segments("abcdefgh.abcdefghabcdef.", direction, 2, 14);
            segments(".a.b.c.d.e.f.g.h.a.b.c.d", direction, 12, 1);
            segments("a.b.c.d.e.f.g.h.a.b.c.d.", direction, 12, 1);
        }
    }

    private static void segments(String ring, int direction, int count, int longest) {
        RingReadings x = Check.fountain(ring);
        Check.due("the segments of " + ring, x.reading(direction, 0), count);
        Check.due("the longest of " + ring, x.reading(direction, 3), longest);
        if (count == 0) {
            Check.refused(x, "the first of " + ring, Check.INDEX, () -> x.segment(direction, 0, 0));
        }
    }

    private static void dividersDoNotBelong() {
        term("dividers do not belong to it.");
        RingReadings x = Check.fountain(".?a?..", "aaa", "aaaa");
        for (int direction = 0; direction <= 1; direction++) {
            int d = direction;
            Check.dueRow("the segment of " + d, what -> x.segment(d, 0, 1 + what), 3, 1, 0, 2);
        }
    }

    private static void segmentNumbers() {
        term("Segments are numbered from 0 in this direction from the place 0 on, by the place of the divider ahead of them: "
            + "in the direction 0 from the lowest one on, in the direction 1 from the highest one on.");
        RingReadings x = Check.fountain(".a..b.");
        Check.dueRow("the dividers ahead", s -> x.segment(0, s, 0), 0, 3);
        Check.dueRow("the dividers ahead, against the order", s -> x.segment(1, s, 0), 5, 2);
        Check.refused(x, "segment(0, 2, 0)", Check.INDEX, () -> x.segment(0, 2, 0));
        Check.refused(x, "segment(1, -1, 0)", Check.INDEX, () -> x.segment(1, -1, 0));
        RingReadings most = Check.fountain("a.b.c.d.e.f.g.h.a.b.c.d.");
        for (int s = 0; s < 12; s++) {
            Check.due("the divider ahead of " + s, most.segment(0, s, 0), 1 + 2 * s);
            Check.due("the divider ahead of " + s + ", against the order", most.segment(1, s, 0), 23 - 2 * s);
        }
        RingReadings early = Check.fountain(".a.b.c.d.e.f.g.h.a.b.c.d");
        for (int s = 0; s < 12; s++) {
            Check.due("the divider ahead of " + s + " with one at place 0", early.segment(0, s, 0), 2 * s);
            Check.due("the divider ahead of " + s + " with one at place 0, against the order", early.segment(1, s, 0), 22 - 2 * s);
        }
        RingReadings first = Check.fountain(".ab..");
        Check.due("the one at place 0, in the order", first.segment(0, 0, 0), 0);
        Check.due("the one that is not at the last place, against it", first.segment(1, 0, 0), 3);
    }

    private static void noDivider() {
        term("Without a divider there is no segment.");
        for (int direction = 0; direction <= 1; direction++) {
            segments("a", direction, 0, 0);
            segments("?", direction, 0, 0);
            segments(ALL, direction, 0, 0);
            segments("", direction, 0, 0);
            RingReadings x = Check.fountain("ab", "ab", "ba");
            Check.due("the sense", x.reading(direction, 1), 0);
            Check.due("the readings", x.reading(direction, 2), 0);
        }
    }

    private static void book() {
        term("The book has at most 10 words, numbered from 0, of 1 to 6 letters.");
        RingReadings x = Check.fountain("", "a", "b", "c", "d", "e", "f", "g", "h", "aa", "hgfedc");
        Check.due("the words", x.about(3), 10);
        Check.due("word 0", x.letter(0, 0), 'a');
        Check.due("word 9", x.letter(9, 0), 'h');
        Check.due("the sixth letter", x.letter(9, 5), 'c');
        Check.refused(x, "an eleventh word", Check.STATE, x::addWord);
        Check.refused(x, "word 10", Check.INDEX, () -> x.letter(10, 0));
        Check.refuses(() -> Check.write(new RingReadings(), ""), "a word of none", Check.STATE, RingReadings::addWord);
        Check.refuses(() -> Check.write(new RingReadings(), "abcdefg"), "a word of seven", Check.STATE, RingReadings::addWord);
        Check.refuses(RingReadings::new, "word 0 of an empty book", Check.INDEX, y -> y.letter(0, 0));
    }

    private static void fitting() {
        term("A word fits a segment (in its direction) if it has as many letters as that has places, "
            + "and each letter is that of its place, or this is worn.");
        fit(".abcdef", "abcdef", 1, 0);
        fit(".abcdef", "abcde", 0, 0);
        fit(".abcdefg", "abcdef", 0, 0);
        fit(".abcdef", "bcdef", 0, 0);
        fit(".abcdef", "hbcdef", 0, 0);
        fit(".abcdef", "abcdeh", 0, 0);
        fit(".abcdef", "fedcba", 0, 1);
        fit(".??????", "abcdef", 1, 1);
        fit(".?????", "abcdef", 0, 0);
        fit(".???????", "abcdef", 0, 0);
        fit(".?bcde?", "abcdeh", 1, 0);
        fit(".?", "h", 1, 1);
        fit(".a", "a", 1, 1);
        fit(".a", "b", 0, 0);
        fit(".a", "aa", 0, 0);
        fit("b.a", "ab", 1, 0);
        fit("b.a", "ba", 0, 1);
    }

    private static void fit(String ring, String word, int inOrder, int against) {
        RingReadings x = Check.fountain(ring, word);
        Check.due(word + " in " + ring, x.segment(0, 0, 2), inOrder);
        Check.due(word + " in " + ring + ", against the order", x.segment(1, 0, 2), against);
    }

    private static void wordTwice() {
        term("A word can be in the book more than once.");
        RingReadings x = Check.fountain(".a.", "a", "a", "a", "a", "a", "a", "a", "a", "a", "a");
        Check.due("the words", x.about(3), 10);
        Check.due("each of them fits", x.segment(0, 0, 2), 10);
        Check.due("the readings", x.reading(1, 2), 10);
        Check.due("the sense", x.reading(1, 1), 1);
        x.removeWord(0);
        Check.due("one is taken out", Check.words(x), "a a a a a a a a a");
    }

    private static void sense() {
        term("The sense of a direction is how many of its segments some word fits.");
        String ring = ".a.b.c.d.e.f.g.h.a.b.c.d";
        Check.due("without a word", Check.fountain(ring).reading(0, 1), 0);
        Check.due("one word", Check.fountain(ring, "h").reading(0, 1), 1);
        Check.due("one word for two", Check.fountain(ring, "a").reading(1, 1), 2);
        RingReadings all = Check.fountain(ring, "a", "b", "c", "d", "e", "f", "g", "h");
        Check.due("all twelve", all.reading(0, 1), 12);
        Check.due("all twelve, against the order", all.reading(1, 1), 12);
        RingReadings one = Check.fountain(".ab", "ab");
        Check.due("in the order", one.reading(0, 1), 1);
        Check.due("against it", one.reading(1, 1), 0);
    }

    private static void readings() {
        term("The readings of a direction are the product, over all its segments, of how many words fit each; "
            + "0 without segments; 1000000 if it is more than that.");
        String[] tens = {"a", "a", "a", "a", "a", "a", "a", "a", "a", "a"};
        reading("", 0, tens);
        reading("...", 0, tens);
        reading("?", 0, tens);
        reading(".?", 0);
        reading(".?", 1, "h");
        reading(".?", 10, tens);
        reading(".?.?.?.?.?", 100000, tens);
        reading(".a.a.a.a.a.a.b.b.b.b.b", 995328, "a", "a", "a", "a", "b", "b", "b");
        reading(".?.?.?.?.?.?", 1000000, tens);
        reading(".?.?.?.a.a.a.b.b", 1000000, "a", "a", "a", "a", "a", "a", "a", "b", "b");
        reading(".?.?.?.?.?.?.?", 1000000, tens);
        reading(".?.?.?.?.?.?.?.?.?.?.?.?", 1000000, tens);
        reading(".?.?.?.?.?.?.?.?.?.?.?.b", 0, tens);
        reading(".b.?.?.?.?.?.?.?.?.?.?.?", 0, tens);
    }

    private static void reading(String ring, int want, String... words) {
        RingReadings x = Check.fountain(ring, words);
        Check.due("the readings of " + ring, x.reading(0, 2), want);
        Check.due("the readings of " + ring + ", against the order", x.reading(1, 2), want);
    }

    private static void orderOfSigns() {
        term("The ring as read from a place in the direction 0, all round, is a text; "
            + "signs are in the order point, question mark, a, b, and so on to h.");
        String signs = ".?abcdefgh";
        for (int less = 0; less < signs.length(); less++) {
            for (int more = less + 1; more < signs.length(); more++) {
                about(6, "" + signs.charAt(less) + signs.charAt(more), 0);
                about(6, "" + signs.charAt(more) + signs.charAt(less), 1);
            }
        }
    }

    private static void beginning() {
        term("The beginning is the place from which this text is the least one, of several the lowest.");
        about(6, "a", 0);
        about(6, "aaaaaaaaaaaaaaaaaaaaaaaa", 0);
        about(6, "abcdefghabcdefghabcdefgh", 0);
        about(6, "babababababababababababa", 1);
        about(6, "bbbbbbbbbbbbbbbbbbbbbbba", 23);
        about(6, "aaaaaaaaaaaaaaaaaaaaaaab", 0);
        about(6, "baaaaaaaaaaaaaaaaaaaaaaa", 1);
        about(6, "abaaaaaaaaaaaaaaaaaaaaaa", 2);
        about(6, "aaaaaaaaaaabaaaaaaaaaaac", 0);
        about(6, "aaaaaaaaaaacaaaaaaaaaaab", 12);
        about(6, "aba", 2);
        about(6, "cba", 2);
    }

    private static void about(int what, String ring, int want) {
        Check.due("about(" + what + ") of " + ring, Check.fountain(ring).about(what), want);
    }

    private static void period() {
        term("The period is the least number of places, from 1 on, by which the ring can be turned so that the same stands at each place.");
        about(7, "a", 1);
        about(7, ".", 1);
        about(7, "aa", 1);
        about(7, "ab", 2);
        about(7, "aaaaaaaaaaaaaaaaaaaaaaaa", 1);
        about(7, "aaaaaaaaaaaaaaaaaaaaaaab", 24);
        about(7, "baaaaaaaaaaaaaaaaaaaaaaa", 24);
        about(7, "abababababababababababab", 2);
        about(7, "abababababababababababac", 24);
        about(7, "aaaaaaaaaaabaaaaaaaaaaab", 12);
        about(7, "abcdefghabcdefghabcdefgh", 8);
        about(7, "abcdefghabcdefghabcdefg", 23);
        about(7, "ababa", 5);
        about(7, "?.?.", 2);
    }

    private static void walkersAtMost() {
        term("There are at most 4 walkers, numbered from 0.");
        RingReadings x = Check.fountain("abcd");
        for (int w = 0; w < 4; w++) {
            Check.due("addWalker", x.addWalker(w, 0, 1, 1), w);
        }
        Check.dueRow("the places", w -> x.walker(w, 0), 0, 1, 2, 3);
        Check.due("the walkers", x.about(4), 4);
        Check.refused(x, "a fifth walker", Check.STATE, () -> x.addWalker(0, 0, 1, 1));
        Check.refused(x, "walker(4, 0)", Check.INDEX, () -> x.walker(4, 0));
        Check.refused(x, "walker(-1, 0)", Check.INDEX, () -> x.walker(-1, 0));
    }

    private static void paceAndSight() {
        term("A walker has a place, a direction, a pace, 1 to 3, and a sight, 1 to 5, and has seen some places of the ring.");
        for (int pace = 1; pace <= 3; pace++) {
            for (int sight = 1; sight <= 5; sight++) {
                RingReadings x = Check.fountain(ALL);
                x.addWalker(23, 1, pace, sight);
                Check.dueRow("walker", what -> x.walker(0, what), 23, 1, pace, sight, sight);
            }
        }
        Outside.range("addWalker with the pace", 1, 3, (x, pace) -> x.addWalker(0, 0, pace, 1));
        Outside.range("addWalker with the sight", 1, 5, (x, sight) -> x.addWalker(0, 0, 1, sight));
    }

    private static void seeing() {
        term("A walker sees the own place, and the next places in the own direction, so many of them as the sight, less 1, tells.");
        for (int places = 1; places <= 24; places++) {
            for (int sight = 1; sight <= 5; sight++) {
                int p = places;
                int s = sight;
                RingReadings x = Check.fountain(ALL.substring(0, places));
                x.addWalker(places - 1, 0, 1, sight);
                x.addWalker(0, 1, 1, sight);
                Check.dueRow("seen of " + places + " with the sight " + sight, w -> x.walker(w, 4), Math.min(p, s), Math.min(p, s));
            }
        }
        seesOver("ab.c.d", 4, 0, 5, 1);
        seesOver("ab.c.d", 4, 0, 4, 0);
        seesOver("ab.c.d", 2, 1, 5, 1);
        seesOver("ab.c.d", 2, 1, 4, 0);
    }

    private static void seesOver(String ring, int place, int direction, int sight, int known) {
        RingReadings x = Check.fountain(ring);
        x.addWalker(place, direction, 1, sight);
        Check.due("known over the end of " + ring + " with the sight " + sight, x.walker(0, 5), known);
    }

    private static void passedBy() {
        term("When walkers go a step, each one goes so many places in the own direction as the pace tells, "
            + "and sees then (not what is passed by).");
        RingReadings x = Check.fountain(ALL);
        x.addWalker(0, 0, 1, 1);
        x.addWalker(0, 1, 1, 1);
        x.addWalker(0, 0, 2, 1);
        x.addWalker(0, 1, 3, 1);
        x.go(1);
        Check.dueRow("the places", w -> x.walker(w, 0), 1, 23, 2, 21);
        Check.dueRow("the places seen", w -> x.walker(w, 4), 2, 2, 2, 2);
        x.go(24);
        Check.dueRow("the places", w -> x.walker(w, 0), 1, 23, 2, 21);
        Check.dueRow("the places seen all round", w -> x.walker(w, 4), 24, 24, 12, 8);
        RingReadings y = Check.fountain(".a.b");
        y.addWalker(0, 0, 3, 1);
        y.addWalker(0, 1, 2, 1);
        y.go(1);
        Check.dueRow("segments that were passed by", w -> y.walker(w, 5), 0, 0);
        y.go(3);
        Check.dueRow("segments that were seen", w -> y.walker(w, 5), 2, 0);
    }

    private static void knowing() {
        term("A walker knows a segment of the own direction if its places, and the dividers at both its ends, have been seen.");
        know(0, 0, 4, 1);
        know(0, 0, 3, 0);
        know(1, 0, 5, 0);
        know(3, 0, 4, 1);
        know(3, 0, 3, 0);
        know(3, 1, 4, 1);
        know(3, 1, 3, 0);
        know(2, 1, 5, 0);
        know(0, 1, 4, 1);
        know(0, 1, 3, 0);
        RingReadings inner = Check.fountain(".abc.d");
        inner.addWalker(0, 0, 2, 1);
        inner.go(2);
        Check.due("the dividers without the places", inner.walker(0, 5), 0);
        RingReadings own = Check.fountain(".ab.h", "ba");
        own.addWalker(0, 0, 1, 4);
        Check.due("a word fits in the other direction alone", own.walker(0, 6), 0);
        own.turn(0);
        Check.due("a word fits in the own direction", own.walker(0, 6), 1);
        RingReadings alone = Check.fountain("a.bcd");
        alone.addWalker(2, 0, 1, 4);
        Check.due("all but the one divider", alone.walker(0, 5), 0);
        alone.go(1);
        Check.due("the one divider at both ends", alone.walker(0, 5), 1);
        RingReadings none = Check.fountain("....");
        none.addWalker(0, 0, 1, 5);
        Check.due("dividers alone", none.walker(0, 5), 0);
    }

    private static void know(int place, int direction, int sight, int want) {
        RingReadings x = Check.fountain(".ab.cd");
        x.addWalker(place, direction, 1, sight);
        Check.due("known from " + place + " in the direction " + direction + " with the sight " + sight, x.walker(0, 5), want);
    }

    private static void walkersGoAway() {
        term("By each ring(), insert() and erase(), also if the places are the same then, all walkers go away.");
        gone("ring() of the same", "abc.", 4, RingReadings::ring);
        gone("insert() at the end", "abc.", 4, x -> x.insert(4, 0));
        gone("insert() at the start", "abc.", 1, x -> x.insert(0, 1));
        gone("erase() of the last", "abc.", 4, x -> x.erase(3));
        gone("erase() of the only one", ".", 2, x -> x.erase(0));
        RingReadings x = Check.fountain("aaa");
        x.addWalker(0, 0, 1, 1);
        x.runScript(2, 4000_3001);
        Check.due("the walkers behind a script", x.about(4), 1);
        x.erase(2);
        x.insert(2, 1);
        Check.due("the same places, the walkers", x.about(4), 0);
        Check.refused(x, "walker(0, 0) that went away", Check.INDEX, () -> x.walker(0, 0));
    }

    private static void gone(String call, String ring, int walkers, ToIntFunction<RingReadings> it) {
        RingReadings x = Check.fountain(ring);
        for (int w = 0; w < walkers; w++) {
            x.addWalker(0, 0, 1, 1);
        }
        it.applyAsInt(x);
        Check.due("the walkers behind " + call, x.about(4), 0);
        Check.refused(x, "turn(0) behind " + call, Check.INDEX, () -> x.turn(0));
    }
}
