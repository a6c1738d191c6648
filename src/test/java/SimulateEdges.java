import java.math.BigInteger;
import java.util.function.IntPredicate;

/** The edges that the document names for promise 30: one test for each sentence. */
final class SimulateEdges {
    private static final String TWELVE = ".a.a.a.a.a.a.a.a.a.a.a.a";
    private static final long FACTOR = 6364136223846793005L;
    private static final long SUMMAND = 1442695040888963407L;
    private static final long INVERSE = BigInteger.valueOf(FACTOR).modInverse(BigInteger.ONE.shiftLeft(64)).longValue();

    private SimulateEdges() {
    }

    static void run() {
        copy();
        anySeed();
        leastAndGreatestR();
        placeOfTurn();
        carve();
        wear();
        insert();
        erase();
        addWalker();
        paceOfWalker();
        turn();
        go();
        leftOut();
        numberAtTheEnd();
        turns();
    }

    private static void sentence(String words) {
        Check.promise(30, words);
    }

    /** A seed from which the first turn has this r. */
    private static long seedOf(long r) {
        return ((r << 33) - SUMMAND) * INVERSE;
    }

    /** A seed from which the first turns are of these kinds. */
    private static long seedOf(IntPredicate first, IntPredicate second) {
        int r = 0;
        while (!first.test(r)) {
            r++;
        }
        for (long low = 0; low < 1L << 33; low++) {
            long x = ((long) r << 33) + low;
            if (second.test((int) (x * FACTOR + SUMMAND >>> 33))) {
                return (x - SUMMAND) * INVERSE;
            }
        }
        throw new IllegalStateException("no seed has such turns");
    }

    private static IntPredicate sign(int kind, int i, int c) {
        return r -> r % 16 == kind && r / 16 % 24 == i && r / 512 % 9 == c;
    }

    private static IntPredicate place(int kind, int i) {
        return r -> r % 16 == kind && r / 16 % 24 == i;
    }

    private static IntPredicate added(int i, int direction, int pace, int sight) {
        return r -> r % 16 == 7 && r / 16 % 24 == i && r / 512 % 2 == direction && 1 + r / 1024 % 3 == pace && 1 + r / 4096 % 5 == sight;
    }

    private static IntPredicate turned(int w) {
        return r -> r % 16 == 8 && r / 16 % 4 == w;
    }

    private static IntPredicate gone(int kind, int steps) {
        return r -> r % 16 == kind && 1 + r / 16 % 9 == steps;
    }

    /** One turn of this kind answers this: by the least r, by some between, and by one of the greatest. */
    private static void one(RingReadings x, IntPredicate kind, int want) {
        for (int least : new int[] {0, 77_000, 1_234_567, 87_654_321, 1 << 30, Integer.MAX_VALUE - 200_000}) {
            int r = least;
            while (!kind.test(r)) {
                r++;
            }
            Check.due("simulate(" + seedOf(r) + ", 1), r = " + r + ", on " + Check.signs(x), x.simulate(seedOf(r), 1), want);
        }
    }

    private static void two(RingReadings x, IntPredicate first, IntPredicate second, int want) {
        long seed = seedOf(first, second);
        Check.due("simulate(" + seed + ", 2) on " + Check.signs(x), x.simulate(seed, 2), want);
    }

    private static RingReadings pair() {
        RingReadings x = Check.fountain(TWELVE);
        x.addWalker(0, 0, 1, 1);
        x.addWalker(0, 0, 1, 2);
        return x;
    }

    private static void copy() {
        sentence("Simulates m turns on a copy of the state.");
        for (int m : new int[] {1, 2, 30, 59, 60}) {
            for (long seed = 0; seed < 5; seed++) {
                long s = seed;
                RingReadings busy = Check.busy();
                Check.asks(Check::busy, "simulate(" + s + ", " + m + ")", x -> x.simulate(s, m), busy.simulate(s, m));
                Check.due("simulate(" + s + ", " + m + ") again", busy.simulate(s, m), Check.busy().simulate(s, m));
                ScriptsTest.same(Check.full(), s, m);
                ScriptsTest.same(new RingReadings(), s, m);
            }
        }
    }

    private static void anySeed() {
        sentence("A long x starts as the seed.");
        sentence("`seed`: any long");
        for (long seed : new long[] {0, 1, -1, Integer.MAX_VALUE, Integer.MIN_VALUE, 1L << 32, Long.MAX_VALUE, Long.MIN_VALUE}) {
            for (int m : new int[] {1, 60}) {
                ScriptsTest.same(Check.busy(), seed, m);
                ScriptsTest.same(Check.full(), seed, m);
            }
        }
    }

    private static void leastAndGreatestR() {
        sentence("Each turn first replaces x by x * 6364136223846793005L + 1442695040888963407L (with long overflow), "
            + "and r = (int) (x >>> 33) is computed.");
        Check.due("r is 0: carve(0, 0)", Check.fountain("aa", "a").simulate(seedOf(0), 1), 10100);
        Check.due("r is 15: go(1)", pair().simulate(seedOf(15), 1), 1);
        long most = Integer.MAX_VALUE;
        Check.due("r is the greatest int", pair().simulate(seedOf(most), 1), 1 + Integer.MAX_VALUE / 16 % 9);
        Check.due("x is -1, r is the greatest int", pair().simulate((-1 - SUMMAND) * INVERSE, 1), 1 + Integer.MAX_VALUE / 16 % 9);
        Check.due("x is just below 1 << 33, r is 0", Check.fountain("aa", "a").simulate(((1L << 33) - 1 - SUMMAND) * INVERSE, 1), 10100);
        long half = 1L << 30;
        Check.due("x is the least long, r is 1 << 30: carve", Check.fountain(TWELVE, "a").simulate(seedOf(half), 1),
            Check.fountain(carved(TWELVE, (int) half), "a").reading(0, 1) * 10100);
    }

    private static String carved(String ring, int r) {
        int i = r / 16 % 24;
        return ring.substring(0, i) + ".abcdefgh".charAt(r / 512 % 9) + ring.substring(i + 1);
    }

    private static void placeOfTurn() {
        sentence("i is r / 16 % 24.");
        one(Check.fountain(".bbbbbbbbbbbbbbbbbbbbb.b", "a"), place(3, 23), 10100);
        one(Check.fountain("b.bbbbbbbbbbbbbbbbbbbbb.", "a"), place(3, 0), 10100);
        Check.due("the 24th is the place 0", Check.fountain("b.", "a").simulate(seedOf(3 + 16 * 24), 1), 10100);
        Check.due("the 23rd is not", Check.fountain("b.", "a").simulate(seedOf(3 + 16 * 23), 1), 0);
        Check.due("the 25th is the place 1", Check.fountain(".b", "a").simulate(seedOf(3 + 16 * 25), 1), 10100);
    }

    private static void carve() {
        sentence("By r % 16: 0 to 2: carve(i, r / 512 % 9).");
        for (int kind = 0; kind <= 2; kind++) {
            one(Check.fountain(".aba", "a"), sign(kind, 2, 0), 20200);
            one(Check.fountain(".a", "h"), sign(kind, 1, 8), 10100);
            one(Check.fountain(".b", "a"), sign(kind, 1, 1), 10100);
            one(Check.fountain(".?", "b"), sign(kind, 1, 3), 0);
            one(Check.fountain("ab", "b"), sign(kind, 0, 0), 10100);
            one(Check.fountain("bbbbbbbbbbbbbbbbbbbbb.ab", "a"), sign(kind, 23, 0), 10100);
        }
    }

    private static void wear() {
        sentence("3: wear(i).");
        one(Check.fountain(".b", "a", "ab"), place(3, 1), 10100);
        one(Check.fountain(".b", "a", "ab"), place(3, 0), 0);
        one(Check.fountain(".aba", "a"), place(3, 2), 0);
        one(Check.fountain(".ab", "ha"), place(3, 2), 100);
    }

    private static void insert() {
        sentence("4 and 5: insert(i, r / 512 % 9).");
        for (int kind = 4; kind <= 5; kind++) {
            one(Check.fountain(".a", "ah"), sign(kind, 2, 8), 10000);
            one(Check.fountain(".a", "ah"), sign(kind, 1, 8), 100);
            one(Check.fountain("a", "a"), sign(kind, 0, 0), 10100);
            one(Check.fountain(TWELVE.substring(1), "a"), sign(kind, 23, 0), 121200);
            RingReadings x = Check.fountain(".a", "a");
            x.addWalker(0, 0, 1, 5);
            one(x, sign(kind, 2, 0), 10100);
        }
    }

    private static void erase() {
        sentence("6: erase(i).");
        one(Check.fountain(".ab", "a"), place(6, 2), 10100);
        one(Check.fountain(".ab", "b"), place(6, 1), 10100);
        one(Check.fountain("b.a", "a"), place(6, 0), 10100);
        one(Check.fountain("a", "a"), place(6, 0), 0);
        RingReadings x = Check.fountain(".ab", "a");
        x.addWalker(0, 0, 1, 5);
        one(x, place(6, 2), 10100);
    }

    private static void addWalker() {
        sentence("7: addWalker(i, r / 512 % 2, 1 + r / 1024 % 3, 1 + r / 4096 % 5).");
        for (int pace = 1; pace <= 3; pace++) {
            one(Check.fountain(".a"), added(0, 0, pace, 1), 0);
            one(Check.fountain(".a"), added(0, 1, pace, 2), 1);
            one(Check.fountain(".abc.defgh"), added(0, 0, pace, 4), 0);
            one(Check.fountain(".abc.defgh"), added(0, 0, pace, 5), 1);
            one(Check.fountain(".abc.defgh"), added(0, 1, pace, 5), 0);
            one(Check.fountain(".abc.defgh"), added(4, 1, pace, 5), 1);
            one(Check.fountain("ab.cdefghabcdefghabcde.f"), added(22, 0, pace, 5), 1);
            one(Check.fountain("ab.cdefghabcdefghabcde.f"), added(23, 0, pace, 5), 0);
        }
    }

    private static void paceOfWalker() {
        sentence("addWalker(i, r / 512 % 2, 1 + r / 1024 % 3,");
        String ring = ".abcdefg";
        for (int pace = 1; pace <= 3; pace++) {
            two(Check.fountain(ring.substring(0, 5 + pace)), added(0, 0, pace, 5), gone(9, 1), 1);
            two(Check.fountain(ring.substring(0, 5 + pace)), added(0, 1, pace, 5), gone(15, 1), 1);
            if (pace < 3) {
                two(Check.fountain(ring.substring(0, 6 + pace)), added(0, 0, pace, 5), gone(9, 1), 0);
            }
        }
    }

    private static void turn() {
        sentence("8: turn(r / 16 % 4).");
        for (int w = 0; w < 4; w++) {
            RingReadings x = Check.fountain(".ab.cdefgh");
            for (int v = 0; v < 4; v++) {
                x.addWalker(3, 0, 1, v == w ? 4 : 3);
            }
            for (int v = 0; v < 4; v++) {
                one(x, turned(v), v == w ? 1 : 0);
            }
        }
    }

    private static void go() {
        sentence("Otherwise: go(1 + r / 16 % 9).");
        for (int kind = 9; kind <= 15; kind++) {
            for (int steps = 1; steps <= 9; steps++) {
                one(pair(), gone(kind, steps), steps);
            }
        }
        two(pair(), gone(9, 9), gone(15, 9), 18);
    }

    private static void leftOut() {
        sentence("What would throw an exception is left out.");
        RingReadings empty = new RingReadings();
        for (int kind = 0; kind <= 8; kind++) {
            one(empty, place(kind, 1), 0);
            one(empty, place(kind, 0), 0);
        }
        RingReadings x = Check.fountain(".a", "a", "b", "ab");
        x.addWalker(0, 0, 1, 2);
        int before = 10101;
        one(x, sign(0, 2, 0), before);
        one(x, sign(1, 23, 2), before);
        one(x, place(3, 2), before);
        one(x, sign(4, 3, 0), before);
        one(x, sign(5, 23, 0), before);
        one(x, place(6, 2), before);
        one(x, added(2, 0, 1, 5), before);
        one(x, turned(1), before);
        one(x, turned(3), before);
        RingReadings full = Check.fountain(TWELVE);
        for (int w = 0; w < 4; w++) {
            full.addWalker(0, 0, 1, 3);
        }
        one(full, sign(4, 0, 0), 4);
        one(full, sign(5, 23, 1), 4);
        one(full, added(0, 0, 1, 3), 4);
        two(full, sign(4, 0, 0), gone(9, 2), 8);
        two(empty, place(6, 0), sign(4, 0, 0), 0);
        two(Check.fountain("a", "a"), place(6, 3), sign(4, 0, 0), 10100);
    }

    private static void numberAtTheEnd() {
        sentence("Returns 10000 * (the sense of the direction 0 at the end) + 100 * (the sense of the direction 1 at the end) "
            + "+ (the segments that all walkers know at the end, together).");
        RingReadings most = Check.fountain(TWELVE, "a");
        for (int w = 0; w < 4; w++) {
            most.addWalker(0, w % 2, 1, 5);
        }
        most.go(24);
        one(most, gone(9, 1), 121248);
        one(new RingReadings(), gone(9, 1), 0);
        one(Check.fountain(".ab", "ab"), gone(9, 1), 10000);
        one(Check.fountain(".ab", "ba"), gone(9, 1), 100);
        RingReadings one = Check.fountain(".ab");
        one.addWalker(0, 0, 1, 3);
        one(one, gone(9, 1), 1);
    }

    private static void turns() {
        sentence("`m`: number of turns, 1 to 60");
        for (int m : new int[] {1, 60}) {
            Check.due("simulate(0, " + m + ") of no place and no sense", new RingReadings().simulate(seedOf(15), 1), 0);
            ScriptsTest.same(Check.busy(), seedOf(15), m);
        }
        sentence("Throws `IllegalArgumentException` if m is out of range");
        Outside.anywhere("simulate(0, m)", Check.ARGUMENT, 1, 60, (x, m) -> x.simulate(0, m));
        Outside.anywhere("simulate(the greatest, m)", Check.ARGUMENT, 1, 60, (x, m) -> x.simulate(Long.MAX_VALUE, m));
    }
}
