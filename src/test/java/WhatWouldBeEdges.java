import java.util.function.ToIntFunction;

/** The edges that the document names for promises 23 to 28: one test for each sentence. */
final class WhatWouldBeEdges {
    private static final String ALL = "abcdefghabcdefghabcdefgh";
    private static final String[] TEN = {"a", "a", "a", "a", "a", "a", "a", "a", "a", "a"};

    private WhatWouldBeEdges() {
    }

    static void run() {
        nothingChanges();
        meeting();
        meetingPastTheEnd();
        everyPairMeets();
        notMeeting();
        seeingAll();
        seeingAllOfSeen();
        notSeeingAll();
        wornThen();
        notWornThen();
        bestPlace();
        bestOfSeveral();
        noBest();
        noSuchBest();
        greaterSense();
        moreReadings();
        likeOnes();
        lettersThere();
        noLettersThere();
        noSuchLetters();
    }

    private static void nothingChanges() {
        Check.sentence("Terms", "---- what would be; these and all following methods up to the save slots change nothing.");
        asks("meet(0, 1)", x -> x.meet(0, 1));
        asks("seesAll(1)", x -> x.seesAll(1));
        asks("ifWorn(1, 0)", x -> x.ifWorn(1, 0));
        asks("bestDivider(0, 0)", x -> x.bestDivider(0, 0));
        asks("bestDivider(1, 1)", x -> x.bestDivider(1, 1));
        asks("bestDirection()", RingReadings::bestDirection);
        asks("canBe(3, 0)", x -> x.canBe(3, 0));
        asks("runScript(3, 100840003001)", x -> x.runScript(3, 1008_4000_3001L));
        asks("runScript(1, 5050)", x -> x.runScript(1, 5050));
        asks("runScript(2, 20100000)", x -> x.runScript(2, 2010_0000));
        asks("simulate(1, 60)", x -> x.simulate(1, 60));
    }

    private static void asks(String call, ToIntFunction<RingReadings> it) {
        Check.asks(Check::busy, call, it, it.applyAsInt(Check.busy()));
        Check.asks(Check::full, call, it, it.applyAsInt(Check.full()));
    }

    private static RingReadings two(int places, int w, int d, int pace, int v, int e, int quick) {
        RingReadings x = Check.fountain(ALL.substring(0, places));
        x.addWalker(w, d, pace, 1);
        x.addWalker(v, e, quick, 1);
        return x;
    }

    private static void meet(int want, RingReadings x) {
        Check.due("meet(0, 1) in " + x.about(0), x.meet(0, 1), want);
        Check.due("meet(1, 0) in " + x.about(0), x.meet(1, 0), want);
        if (want > 0) {
            x.go(want);
            Check.due("meet(0, 1) when they have met", x.meet(0, 1), 0);
        }
    }

    private static void meeting() {
        Check.promise(23, "Returns how many steps they have to go until both are at one place at the end of a step, 0 if they are there already; NONE if they never are.");
        meet(0, two(1, 0, 0, 1, 0, 0, 1));
        meet(0, two(1, 0, 0, 3, 0, 1, 2));
        meet(0, two(24, 23, 0, 1, 23, 0, 1));
        meet(0, two(24, 0, 0, 1, 0, 1, 3));
        meet(1, two(24, 0, 0, 1, 2, 1, 1));
        meet(-1, two(24, 0, 0, 1, 1, 1, 1));
        meet(-1, two(24, 0, 0, 2, 23, 0, 2));
        meet(-1, two(2, 0, 0, 1, 1, 1, 1));
        meet(1, two(2, 0, 0, 2, 1, 0, 1));
        meet(-1, two(3, 0, 0, 3, 2, 1, 3));
        meet(23, two(24, 0, 0, 1, 1, 0, 2));
        meet(22, two(23, 1, 1, 2, 0, 1, 3));
        meet(-1, two(24, 0, 0, 1, 3, 0, 3));
        meet(-1, two(24, 0, 0, 3, 1, 1, 3));
    }

    private static void meetingPastTheEnd() {
        Check.promise(23, "until both are at one place at the end of a step,");
        meet(1, two(24, 23, 0, 1, 1, 1, 1));
        meet(1, two(24, 22, 0, 3, 2, 1, 1));
        meet(1, two(24, 22, 0, 3, 0, 0, 1));
        meet(1, two(24, 1, 1, 3, 23, 1, 1));
        meet(8, two(24, 8, 0, 1, 0, 0, 2));
    }

    private static void everyPairMeets() {
        Check.promise(23, "`v`: another walker");
        RingReadings x = Check.fountain(ALL);
        for (int w = 0; w < 4; w++) {
            x.addWalker(w * 2, w / 2, 1, 1);
        }
        int[][] want = {{9, -1, 2, 3}, {-1, 9, 1, 2}, {2, 1, 9, -1}, {3, 2, -1, 9}};
        for (int w = 0; w < 4; w++) {
            for (int v = 0; v < 4; v++) {
                if (v != w) {
                    Check.due("meet(" + w + ", " + v + ")", x.meet(w, v), want[w][v]);
                }
            }
        }
    }

    private static void notMeeting() {
        Check.promise(23, "Throws `IndexOutOfBoundsException` if there is no such walker");
        Outside.walkers("meet(w, 0)", (x, w) -> x.meet(w, 0));
        Outside.walkers("meet(0, v)", (x, v) -> x.meet(0, v));
        Check.promise(23, "Throws `IllegalStateException` if both are the same");
        Check.due("meet(0, 1)", two(1, 0, 0, 1, 0, 0, 1).meet(0, 1), 0);
        for (int w = 0; w < 4; w++) {
            int v = w;
            Check.refuses(Check::full, "meet(" + w + ", " + w + ")", Check.STATE, x -> x.meet(v, v));
        }
    }

    private static RingReadings one(int places, int place, int direction, int pace, int sight) {
        RingReadings x = Check.fountain(ALL.substring(0, places));
        x.addWalker(place, direction, pace, sight);
        return x;
    }

    private static void sees(int want, RingReadings x) {
        Check.due("seesAll(0) in " + x.about(0), x.seesAll(0), want);
        if (want > 1) {
            x.go(want - 1);
            Check.due("seesAll(0) one step ahead of it", x.seesAll(0), 1);
        }
        if (want > 0) {
            x.go(1);
            Check.due("seesAll(0) when all has been seen", x.seesAll(0), 0);
        }
    }

    private static void seeingAll() {
        Check.promise(24, "Returns how many steps the walker has to go until all places have been seen, 0 if they have; NONE if they never will.");
        for (int direction = 0; direction <= 1; direction++) {
            sees(0, one(1, 0, direction, 1, 1));
            sees(0, one(1, 0, direction, 3, 5));
            sees(1, one(2, 0, direction, 1, 1));
            sees(-1, one(2, 1, direction, 2, 1));
            sees(0, one(2, 1, direction, 2, 2));
            sees(0, one(5, 3, direction, 1, 5));
            sees(1, one(6, 3, direction, 1, 5));
            sees(-1, one(6, 5, direction, 3, 2));
            sees(1, one(6, 5, direction, 3, 3));
            sees(23, one(24, 0, direction, 1, 1));
            sees(23, one(24, 23, direction, 1, 1));
            sees(-1, one(24, 23, direction, 2, 1));
            sees(-1, one(24, 23, direction, 3, 2));
            sees(11, one(24, 12, direction, 2, 2));
            sees(7, one(24, 12, direction, 3, 3));
            sees(22, one(23, 0, direction, 3, 1));
            sees(22, one(23, 22, direction, 2, 1));
        }
    }

    private static void seeingAllOfSeen() {
        Check.promise(24, "0 if they have;");
        RingReadings x = one(24, 0, 0, 1, 1);
        x.go(22);
        Check.due("one place left", x.seesAll(0), 1);
        x.go(1);
        Check.due("no place left", x.seesAll(0), 0);
        x.turn(0);
        x.go(5);
        Check.due("still none", x.seesAll(0), 0);
        RingReadings y = one(24, 0, 0, 1, 1);
        y.go(22);
        y.turn(0);
        Check.due("the last place, the other way round", y.seesAll(0), 23);
        RingReadings z = one(6, 0, 0, 2, 1);
        z.go(3);
        z.addWalker(1, 0, 2, 1);
        Check.due("what another walker sees", z.seesAll(0), -1);
    }

    private static void notSeeingAll() {
        Check.promise(24, "Throws `IndexOutOfBoundsException` if there is no such walker");
        Outside.walkers("seesAll", (x, w) -> x.seesAll(w));
    }

    private static void wornThen() {
        Check.promise(25, "`direction`: 0 or 1");
        Check.due("ifWorn(1, 0)", Check.fountain(".ab", "hb", "bh").ifWorn(1, 0), 1);
        Check.due("ifWorn(1, 1)", Check.fountain(".ab", "hb", "bh").ifWorn(1, 1), 1);
        Check.due("ifWorn(2, 1)", Check.fountain(".ab", "hb", "bh").ifWorn(2, 1), 0);
        Check.promise(25, "Returns the readings of the direction behind wear(i).");
        Check.due("one place", Check.fountain("a", "a").ifWorn(0, 0), 0);
        Check.due("no divider", Check.fountain("ab", "ab").ifWorn(1, 0), 0);
        Check.due("the last place", Check.fountain(".a.b", "a", "b", "c").ifWorn(3, 0), 3);
        Check.due("a divider", Check.fountain(".a.b", "a", "b", "c").ifWorn(2, 0), 1);
        Check.due("dividers alone", Check.fountain("...", "a").ifWorn(1, 1), 0);
        Check.due("a worn place", Check.fountain("?.b.", "a", "b", "c").ifWorn(0, 1), 3);
        Check.due("just 1000000", Check.fountain(".?.?.?.?.?.b", TEN).ifWorn(11, 0), 1000000);
        Check.due("more than 1000000", Check.fountain(".?.?.?.?.?.?.b", TEN).ifWorn(13, 0), 1000000);
        RingReadings x = Check.fountain(".b", "a");
        Check.due("ifWorn(1, 0)", x.ifWorn(1, 0), 1);
        Check.due("the readings are as before", x.reading(0, 2), 0);
        Check.due("what is remembered", Check.undone(x), 2);
    }

    private static void notWornThen() {
        Check.promise(25, "Throws `IndexOutOfBoundsException` if there is no such place or direction");
        Outside.places("ifWorn(i, 0)", (x, i) -> x.ifWorn(i, 0));
        Outside.places("ifWorn(i, 1)", (x, i) -> x.ifWorn(i, 1));
        Outside.directions("ifWorn(0, direction)", (x, d) -> x.ifWorn(0, d));
    }

    private static void best(String ring, int direction, int place, int sense, String... words) {
        RingReadings x = Check.fountain(ring, words);
        Check.due("bestDivider(" + direction + ", 0) of " + ring, x.bestDivider(direction, 0), place);
        Check.due("bestDivider(" + direction + ", 1) of " + ring, x.bestDivider(direction, 1), sense);
        Check.due("the ring behind it", Check.signs(x), ring);
    }

    private static void bestPlace() {
        Check.promise(26, "`direction`: 0 or 1");
        best("abc", 0, 0, 1, "bc");
        best("abc", 1, 0, 1, "cb");
        best("abc", 1, 1, 1, "ac");
        Check.promise(26, "`what`: 0: the place; 1: the sense then");
        best("a", 0, 0, 0);
        best("ab", 0, 1, 1, "a");
        best(".hb", 0, 1, 1, "b");
        best("a.a.a.a.a.a.a.a.a.a.a.ah", 0, 23, 12, "a");
        best("a.a.a.a.a.a.a.a.a.a.a.a.", 1, 0, 11, "a");
        Check.promise(26, "Returns that of the place without a divider which, as a divider, would give the direction the greatest sense;");
        best(".ab", 0, 1, 1, "ab", "b");
        best(".abcba", 0, 3, 2, "ab", "ba");
        best(".a", 0, 1, 0, "a");
        best(".?", 1, 1, 0, "a");
        best("?a", 0, 0, 1, "a");
        best("bbbbbbbbbbbbbbbbbbbbbbb.", 0, 1, 1, "b");
    }

    private static void bestOfSeveral() {
        Check.promise(26, "of several the lowest;");
        best("bbbbbbbbbbbbbbbbbbbbbbbb", 0, 0, 0, "b");
        best("bb.bbbbbbbbbbbbbbbbbbbbb", 0, 0, 1, "b");
        best("bbbbbbbb.b.bbbbbbbbbbbbb", 1, 1, 2, "b", "bbbbbb");
        best("b.bbb", 0, 3, 1, "bb");
        best("aaa", 1, 0, 1, "aa");
        best("aaaa", 0, 0, 0, "aa");
    }

    private static void noBest() {
        Check.promise(26, "NONE if there is none.");
        for (int direction = 0; direction <= 1; direction++) {
            best("", direction, -1, -1, "a");
            best(".", direction, -1, -1, "a");
            best("........................", direction, -1, -1, "a");
            best(".......................a", direction, 23, 0, "a");
            best("a.......................", direction, 0, 0, "a");
        }
    }

    private static void noSuchBest() {
        Check.promise(26, "Throws `IndexOutOfBoundsException` if there is no such direction");
        Outside.directions("bestDivider(direction, 0)", (x, d) -> x.bestDivider(d, 0));
        Check.promise(26, "Throws `IllegalArgumentException` if what is neither 0 nor 1");
        Outside.anywhere("bestDivider(0, what)", Check.ARGUMENT, 0, 1, (x, what) -> x.bestDivider(0, what));
        Outside.anywhere("bestDivider(1, what)", Check.ARGUMENT, 0, 1, (x, what) -> x.bestDivider(1, what));
    }

    private static void direction(int want, String ring, String... words) {
        Check.due("bestDirection() of " + ring, Check.fountain(ring, words).bestDirection(), want);
    }

    private static void greaterSense() {
        Check.promise(27, "Returns the direction with the greater sense,");
        direction(1, ".ab", "ba");
        direction(0, ".ab", "ab");
        direction(0, ".ab.cd", "ab", "dc", "cd");
        direction(1, ".ab.cd", "ba", "dc", "cd");
        direction(0, ".ab.cd.ef", "ab", "cd", "ba", "ba", "ba");
        direction(1, ".ab.cd.ef", "ba", "dc", "ab", "ab", "ab");
    }

    private static void moreReadings() {
        Check.promise(27, "of two like ones that with the more readings,");
        direction(1, ".ab", "ab", "ba", "ba");
        direction(0, ".ab", "ab", "ab", "ba");
        direction(1, ".ab.cd", "ab", "cd", "cd", "ba", "ba", "dc", "dc");
        direction(0, ".ab.cd", "ba", "dc", "ab", "cd", "cd");
    }

    private static void likeOnes() {
        Check.promise(27, "of two like ones 0.");
        direction(0, "");
        direction(0, "a", "a");
        direction(0, ".");
        direction(0, ".ab");
        direction(0, ".ab", "ab", "ba");
        direction(0, ".?b.cd", "ab", "ba", "ba");
        direction(0, ".a?.a?.a?.a?.a?.a?.a?.a?", "ab", "ab", "ab", "ab", "ab", "ba", "ba", "ba", "ba", "ba");
        // 5 to the 8th is 390625 for direction 0, 6 to the 8th is more than 1000000: both of 24 places.
        direction(1, ".a?.a?.a?.a?.a?.a?.a?.a?", "ab", "ab", "ab", "ab", "ba", "ba", "ba", "ba", "ba", "ba");
        // Both directions have more than 1000000 readings, so they are like ones, though 1 has more.
        direction(0, ".??.??.??.??.??.??.??.a?", "ab", "ab", "ab", "ab", "ba", "ba", "ba", "ba", "ba", "ba");
    }

    private static void lettersThere() {
        Check.promise(28, "`direction`: 0 or 1");
        canBe(128, "?a.", 0, 0, "ha", "ab");
        canBe(2, "?a.", 0, 1, "ha", "ab");
        Check.promise(28, "Returns the letters that words which fit its segment have there, as a set (bit 0 for a);");
        canBe(1, ".?", 1, 0, "a");
        canBe(128, ".?", 1, 1, "h");
        canBe(255, ".?", 1, 0, "a", "b", "c", "d", "e", "f", "g", "h", "a", "aa");
        canBe(2, ".?", 1, 0, "b", "b");
        canBe(1, ".ab", 1, 0, "ab");
        canBe(128, "?a.hgfe", 0, 0, "hgfeha");
        canBe(16, "?a.hgfe", 6, 0, "hgfeba");
        canBe(2, "?a.hgfe", 0, 0, "hgfeba");
        canBe(4, "?a.??????.", 0, 0, "ca");
        canBe(32, "?????.?", 4, 0, "abcdef");
        canBe(1, "?????.?", 6, 0, "abcdef");
        canBe(32, "?????.?", 6, 1, "abcdef");
        canBe(2, "?????.?", 3, 1, "abcdef");
    }

    private static void canBe(int want, String ring, int i, int direction, String... words) {
        Check.due("canBe(" + i + ", " + direction + ") of " + ring, Check.fountain(ring, words).canBe(i, direction), want);
    }

    private static void noLettersThere() {
        Check.promise(28, "0 without such words, or if there is a divider, or no segment.");
        for (int direction = 0; direction <= 1; direction++) {
            canBe(0, ".?", 1, direction);
            canBe(0, ".?", 1, direction, "aa");
            canBe(0, ".??", 1, direction, "a");
            canBe(0, ".???????", 7, direction, "abcdef");
            canBe(0, ".a?", 2, direction, "bb");
            canBe(0, ".?", 0, direction, "a");
            canBe(0, ".", 0, direction, "a");
            canBe(0, "........................", 23, direction, "a");
            canBe(0, "?", 0, direction, "a");
            canBe(0, "????????????????????????", 23, direction, "a", "abcdef");
            canBe(0, "?.a.", 1, direction, "a");
        }
    }

    private static void noSuchLetters() {
        Check.promise(28, "Throws `IndexOutOfBoundsException` if there is no such place or direction");
        Outside.places("canBe(i, 0)", (x, i) -> x.canBe(i, 0));
        Outside.places("canBe(i, 1)", (x, i) -> x.canBe(i, 1));
        Outside.directions("canBe(0, direction)", (x, d) -> x.canBe(0, d));
    }
}
