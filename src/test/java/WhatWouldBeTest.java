/** Promises 23 to 28: meet, seesAll, ifWorn, bestDivider, bestDirection, canBe. */
public final class WhatWouldBeTest {
    public static void main(String[] args) {
        meetings();
        seeings();
        wornPlaces();
        dividers();
        directions();
        lettersThatCanBe();
        nothingChanges();
        Check.finish();
    }

    private static void meetings() {
        meeting(8, 0, 0, 1, 0, 1, 2, 0);
        meeting(8, 0, 0, 1, 4, 0, 1, -1);
        meeting(8, 0, 0, 1, 4, 1, 1, 2);
        meeting(8, 0, 0, 1, 5, 1, 1, -1);
        meeting(9, 0, 0, 1, 5, 1, 1, 7);
        meeting(8, 0, 0, 1, 1, 0, 3, -1);
        meeting(8, 0, 0, 1, 2, 0, 3, 3);
        meeting(24, 0, 0, 1, 1, 0, 2, 23);
        meeting(23, 0, 0, 1, 21, 0, 3, 1);
        meeting(1, 0, 0, 1, 0, 0, 3, 0);
        meeting(2, 0, 0, 1, 1, 0, 2, 1);
        meeting(2, 0, 0, 1, 1, 0, 3, -1);
        RingReadings x = Check.fountain("abc");
        x.addWalker(0, 0, 1, 1);
        x.addWalker(1, 0, 2, 1);
        Check.refused(x, "meet(0, 2)", Check.INDEX, () -> x.meet(0, 2));
        Check.refused(x, "meet(2, 0)", Check.INDEX, () -> x.meet(2, 0));
        Check.refused(x, "meet(2, 2)", Check.INDEX, () -> x.meet(2, 2));
        Check.refused(x, "meet(-1, 0)", Check.INDEX, () -> x.meet(-1, 0));
        Check.refused(x, "meet(0, -1)", Check.INDEX, () -> x.meet(0, -1));
        Check.refused(x, "meet(1, 1)", Check.STATE, () -> x.meet(1, 1));
    }

    private static void meeting(int places, int w, int d, int pace, int v, int e, int quick, int want) {
        RingReadings x = Check.fountain("abcdefghabcdefghabcdefgh".substring(0, places));
        x.addWalker(w, d, pace, 1);
        x.addWalker(v, e, quick, 1);
        Check.due("meet(0, 1) in " + places, x.meet(0, 1), want);
        Check.due("meet(1, 0) in " + places, x.meet(1, 0), want);
    }

    private static void seeings() {
        seeing(1, 1, 1, 0);
        seeing(5, 1, 5, 0);
        seeing(6, 1, 5, 1);
        seeing(24, 1, 1, 23);
        seeing(24, 1, 5, 19);
        seeing(24, 2, 1, -1);
        seeing(24, 2, 2, 11);
        seeing(24, 3, 2, -1);
        seeing(24, 3, 3, 7);
        seeing(23, 2, 1, 22);
        seeing(23, 3, 1, 22);
        seeing(7, 3, 1, 6);
        seeing(3, 3, 2, -1);
        seeing(3, 3, 3, 0);
        RingReadings x = Check.fountain("abcdef");
        x.addWalker(0, 0, 2, 1);
        x.go(2);
        Check.due("seesAll of even places", x.seesAll(0), -1);
        x.turn(0);
        Check.refused(x, "seesAll(1)", Check.INDEX, () -> x.seesAll(1));
        Check.refused(x, "seesAll(-1)", Check.INDEX, () -> x.seesAll(-1));
        RingReadings y = Check.fountain("abcdef");
        y.addWalker(0, 0, 2, 2);
        y.turn(0);
        Check.due("what was seen before counts", y.seesAll(0), 2);
        y.go(2);
        Check.due("when it has been seen", y.seesAll(0), 0);
    }

    private static void seeing(int places, int pace, int sight, int want) {
        for (int direction = 0; direction < 2; direction++) {
            RingReadings x = Check.fountain("abcdefghabcdefghabcdefgh".substring(0, places));
            x.addWalker(places / 2, direction, pace, sight);
            Check.due("seesAll(0) in " + places + ", pace " + pace + ", sight " + sight, x.seesAll(0), want);
        }
    }

    private static void wornPlaces() {
        RingReadings x = Check.fountain("ab.cd.", "ab", "cb", "bb", "cd", "dc", "ba", "da");
        Check.dueRow("ifWorn of 0", i -> x.ifWorn(i, 0), 3, 1, 1, 1, 2, 1);
        Check.dueRow("ifWorn of 1", i -> x.ifWorn(i, 1), 2, 2, 1, 2, 1, 1);
        Check.due("the readings are as before", x.reading(0, 2), 1);
        Check.refused(x, "ifWorn(6, 0)", Check.INDEX, () -> x.ifWorn(6, 0));
        Check.refused(x, "ifWorn(-1, 0)", Check.INDEX, () -> x.ifWorn(-1, 0));
        Check.refused(x, "ifWorn(0, 2)", Check.INDEX, () -> x.ifWorn(0, 2));
        Check.refused(x, "ifWorn(0, -1)", Check.INDEX, () -> x.ifWorn(0, -1));
        Check.due("ifWorn without a divider", Check.fountain("ab", "ab").ifWorn(0, 0), 0);
    }

    private static void dividers() {
        RingReadings x = Check.fountain("abcab", "ab", "babc", "abab", "bc");
        best(x, 0, 2, 1);
        best(x, 1, 0, 0);
        RingReadings two = Check.fountain(".abcba.a", "ab", "ba", "a");
        best(two, 0, 3, 3);
        best(two, 1, 3, 3);
        RingReadings worn = Check.fountain(".a?a", "a");
        best(worn, 0, 2, 2);
        best(Check.fountain("...", "a"), 0, -1, -1);
        best(Check.fountain("", "a"), 1, -1, -1);
        best(Check.fountain("a", "a"), 0, 0, 0);
        best(Check.fountain("aa", "a"), 0, 0, 1);
        best(Check.fountain("?.", "a"), 1, 0, 0);
        Check.refused(x, "bestDivider(2, 0)", Check.INDEX, () -> x.bestDivider(2, 0));
        Check.refused(x, "bestDivider(-1, 0)", Check.INDEX, () -> x.bestDivider(-1, 0));
        Check.refused(x, "bestDivider(0, 2)", Check.ARGUMENT, () -> x.bestDivider(0, 2));
        Check.refused(x, "bestDivider(0, -1)", Check.ARGUMENT, () -> x.bestDivider(0, -1));
        Check.refused(x, "bestDivider(2, 2)", Check.INDEX, () -> x.bestDivider(2, 2));
    }

    private static void best(RingReadings x, int direction, int place, int sense) {
        Check.due("bestDivider(" + direction + ", 0) of " + Check.signs(x), x.bestDivider(direction, 0), place);
        Check.due("bestDivider(" + direction + ", 1) of " + Check.signs(x), x.bestDivider(direction, 1), sense);
    }

    private static void directions() {
        Check.due("no sense either way", Check.fountain("ab.", "c").bestDirection(), 0);
        Check.due("sense in the order", Check.fountain("ab.", "ab").bestDirection(), 0);
        Check.due("sense against it", Check.fountain("ab.", "ba").bestDirection(), 1);
        Check.due("the same both ways", Check.fountain("ab.", "ab", "ba").bestDirection(), 0);
        Check.due("more readings against it", Check.fountain("ab.", "ab", "ba", "ba").bestDirection(), 1);
        Check.due("more readings in the order", Check.fountain("ab.", "ab", "ba", "ab").bestDirection(), 0);
        Check.due("more sense, though no readings", Check.fountain("ab.ab.cd.d.", "ba", "dc").bestDirection(), 1);
        Check.due("more sense against more readings", Check.fountain("ab.cd.", "ab", "ab", "dc", "ba").bestDirection(), 1);
    }

    private static void lettersThatCanBe() {
        RingReadings x = Check.fountain("?.a?h.bc", "abh", "ahh", "abc", "bca", "bcd", "dcb", "hha");
        Check.dueRow("canBe of 0", i -> x.canBe(i, 0), 1 | 8, 0, 1, 2 | 128, 128, 0, 2, 4);
        Check.dueRow("canBe of 1", i -> x.canBe(i, 1), 8, 0, 1, 128, 128, 0, 2, 4);
        x.carve(4, 7);
        Check.dueRow("canBe without such words", i -> x.canBe(i + 2, 0), 0, 0, 0);
        Check.due("canBe without a segment", Check.fountain("?b", "ab").canBe(0, 0), 0);
        Check.due("canBe with one divider", Check.fountain("?.b", "ba", "bh").canBe(0, 0), 129);
        Check.due("canBe in the long", Check.fountain("???.????", "abcdef").canBe(6, 0), 0);
        Check.due("canBe at the end of six", Check.fountain("?.?????", "abcdef", "gfedcb").canBe(0, 0), 32 | 2);
        Check.refused(x, "canBe(8, 0)", Check.INDEX, () -> x.canBe(8, 0));
        Check.refused(x, "canBe(-1, 0)", Check.INDEX, () -> x.canBe(-1, 0));
        Check.refused(x, "canBe(0, 2)", Check.INDEX, () -> x.canBe(0, 2));
        Check.refused(x, "canBe(0, -1)", Check.INDEX, () -> x.canBe(0, -1));
    }

    private static void nothingChanges() {
        RingReadings x = Check.fountain("ab.c?.ba", "baab", "cd", "ca");
        x.addWalker(0, 0, 1, 3);
        x.addWalker(5, 1, 2, 2);
        x.go(1);
        String before = Check.picture(x);
        x.meet(0, 1);
        x.seesAll(0);
        x.ifWorn(0, 0);
        x.bestDivider(0, 0);
        x.bestDirection();
        x.canBe(4, 0);
        Check.due("all there is, behind the questions", Check.picture(x), before);
        Check.due("what is remembered", Check.undone(x), 7);
    }
}
