import java.util.function.Supplier;

/** The edges that the document names for promise 29: one test for each sentence. */
final class ScriptEdges {
    private static final String ALL = "abcdefghabcdefghabcdefgh";

    private ScriptEdges() {
    }

    static void run() {
        copy();
        groups();
        carve();
        wear();
        insert();
        erase();
        go();
        segments();
        sense();
        walkers();
        readings();
        whatFails();
        decimalNumbers();
        firstThatFails();
        commands();
        digits();
    }

    private static void sentence(String words) {
        Check.promise(29, words);
    }

    /** A script of one command on a fountain that has this ring. */
    private static void one(String ring, int command, boolean succeeds) {
        script(() -> Check.fountain(ring, "a"), 1, command, succeeds ? -1 : 0);
    }

    private static void script(Supplier<RingReadings> made, int n, long script, int want) {
        Check.asks(made, "runScript(" + n + ", " + script + ")", x -> x.runScript(n, script), want);
    }

    private static RingReadings four() {
        RingReadings x = Check.fountain(".a.b", "a", "a", "b", "c");
        x.addWalker(0, 0, 1, 3);
        x.addWalker(0, 0, 1, 1);
        x.addWalker(0, 1, 1, 5);
        x.addWalker(0, 1, 2, 1);
        return x;
    }

    private static void copy() {
        sentence("Runs a script on a copy of the state.");
        script(Check::busy, 3, 1000_1010_1020L, -1);
        script(Check::busy, 3, 3000_4000_5050L, -1);
        script(Check::busy, 3, 2000_2010_9999L, 2);
        script(Check::full, 3, 4000_3001_1238L, -1);
        RingReadings x = four();
        Check.due("runScript() once", x.runScript(2, 1020_6001), -1);
        Check.due("runScript() again", x.runScript(2, 6002_1020), -1);
    }

    private static void groups() {
        sentence("A script has 1 to 3 commands; each is a group of four decimal digits d1 to d4, "
            + "and the first command is the highest group of the number (with zeros before it, if it has fewer digits).");
        script(ScriptEdges::four, 1, 5001, -1);
        script(ScriptEdges::four, 2, 5001_5001, -1);
        script(ScriptEdges::four, 3, 5001_5001_5001L, -1);
        script(ScriptEdges::four, 2, 5001_5051, 1);
        script(ScriptEdges::four, 2, 5051_5001, 0);
        script(ScriptEdges::four, 3, 5001_5051_5001L, 1);
        script(ScriptEdges::four, 3, 5001_5001_5051L, 2);
        script(ScriptEdges::four, 2, 5001, 0);
        script(ScriptEdges::four, 3, 5001_5001, 0);
        script(ScriptEdges::four, 1, 501, 0);
        script(ScriptEdges::four, 3, 0, 0);
        script(ScriptEdges::four, 2, 5001_0000, 1);
        script(ScriptEdges::four, 2, 5001_0501, 1);
    }

    private static void carve() {
        sentence("1 i i c: carve(ii, c).");
        one(ALL, 1000, true);
        one(ALL, 1008, true);
        one(ALL, 1009, false);
        one(ALL, 1230, true);
        one(ALL, 1238, true);
        one(ALL, 1240, false);
        one(ALL, 1990, false);
        one(ALL, 1239, false);
        one("", 1000, false);
        one("a", 1000, true);
        one("a", 1010, false);
        script(() -> Check.fountain("bbb.", "a", "h"), 3, 1000_1011_7002L, 2);
        script(() -> Check.fountain("bbb.", "a", "h"), 3, 1010_1001_7001L, -1);
        script(() -> Check.fountain("bbb.", "a", "h"), 3, 1010_1028_7001L, -1);
    }

    private static void wear() {
        sentence("2 i i 0: wear(ii).");
        one(ALL, 2000, true);
        one(ALL, 2230, true);
        one(ALL, 2240, false);
        one(ALL, 2990, false);
        one(ALL, 2001, false);
        one(ALL, 2009, false);
        one(".?", 2000, true);
        one(".?", 2010, true);
        one("", 2000, false);
        script(() -> Check.fountain(".b", "a"), 2, 2010_7001, -1);
        script(() -> Check.fountain(".b", "a"), 2, 2000_7001, 1);
    }

    private static void insert() {
        sentence("3 i i c: insert(ii, c).");
        one("", 3000, true);
        one("", 3010, false);
        one("ab", 3028, true);
        one("ab", 3030, false);
        one("ab", 3029, false);
        one(ALL.substring(1), 3230, true);
        one(ALL.substring(1), 3240, false);
        one(ALL, 3000, false);
        one(ALL, 3240, false);
        script(() -> Check.fountain(ALL.substring(1)), 2, 3000_3000, 1);
        script(() -> Check.fountain(ALL), 2, 4230_3230, -1);
        script(() -> Check.fountain(".b", "ba"), 2, 3021_7001, -1);
        script(() -> Check.fountain(".b", "ba"), 2, 3011_7001, 1);
        script(ScriptEdges::four, 2, 3040_8000, 1);
    }

    private static void erase() {
        sentence("4 i i 0: erase(ii).");
        one("", 4000, false);
        one("a", 4000, true);
        one("a", 4010, false);
        one(ALL, 4230, true);
        one(ALL, 4240, false);
        one(ALL, 4001, false);
        one(ALL, 4009, false);
        script(() -> Check.fountain("a"), 2, 4000_4000, 1);
        script(() -> Check.fountain("ab"), 3, 4010_4000_3000L, -1);
        script(() -> Check.fountain(".ba", "a"), 2, 4010_7001, -1);
        script(ScriptEdges::four, 2, 4030_8000, 1);
    }

    private static void go() {
        sentence("5 0 n n: go(nn).");
        one("", 5001, true);
        one("", 5050, true);
        one("", 5000, false);
        one("", 5051, false);
        one("", 5099, false);
        one("", 5101, false);
        one("", 5901, false);
        script(ScriptEdges::four, 2, 5001_8101, 1);
        script(ScriptEdges::four, 2, 5002_8101, -1);
        script(ScriptEdges::four, 2, 5004_8102, -1);
        script(ScriptEdges::four, 2, 5050_8301, 1);
    }

    private static void segments() {
        sentence("6 d s s: succeeds if there are at least ss segments in the direction d.");
        one("", 6000, true);
        one("", 6001, false);
        one(".a.a.a.a.a.a.a.a.a.a.a.a", 6012, true);
        one(".a.a.a.a.a.a.a.a.a.a.a.a", 6112, true);
        one(".a.a.a.a.a.a.a.a.a.a.a.a", 6013, false);
        one(".a.a.a.a.a.a.a.a.a.a.a.a", 6113, false);
        one(".a", 6100, true);
        one(".a", 6200, false);
        one(".a", 6900, false);
        one(".a", 6099, false);
    }

    private static void sense() {
        sentence("7 d s s: succeeds if the sense of the direction d is at least ss.");
        one("", 7000, true);
        one("", 7101, false);
        one(".a.a.a.a.a.a.a.a.a.a.a.a", 7012, true);
        one(".a.a.a.a.a.a.a.a.a.a.a.a", 7112, true);
        one(".a.a.a.a.a.a.a.a.a.a.a.a", 7013, false);
        one(".b", 7000, true);
        one(".b", 7001, false);
        one(".a", 7200, false);
        one(".a", 7900, false);
        script(() -> Check.fountain(".ab", "ab"), 1, 7001, -1);
        script(() -> Check.fountain(".ab", "ab"), 1, 7101, 0);
    }

    private static void walkers() {
        sentence("8 w s s: succeeds if the walker w knows at least ss segments.");
        script(ScriptEdges::four, 1, 8000, -1);
        script(ScriptEdges::four, 1, 8001, -1);
        script(ScriptEdges::four, 1, 8002, 0);
        script(ScriptEdges::four, 1, 8100, -1);
        script(ScriptEdges::four, 1, 8101, 0);
        script(ScriptEdges::four, 1, 8202, -1);
        script(ScriptEdges::four, 1, 8203, 0);
        script(ScriptEdges::four, 1, 8300, -1);
        script(ScriptEdges::four, 1, 8301, 0);
        script(ScriptEdges::four, 1, 8400, 0);
        script(ScriptEdges::four, 1, 8900, 0);
        one("a", 8000, false);
        one("", 8000, false);
        script(() -> {
            RingReadings x = Check.fountain(".ab");
            x.addWalker(0, 0, 1, 3);
            return x;
        }, 2, 5001_8001, -1);
    }

    private static void readings() {
        sentence("9 d n n: succeeds if the readings of the direction d are at least nn.");
        script(ScriptEdges::four, 1, 9002, -1);
        script(ScriptEdges::four, 1, 9003, 0);
        script(ScriptEdges::four, 1, 9102, -1);
        script(ScriptEdges::four, 1, 9103, 0);
        script(ScriptEdges::four, 1, 9200, 0);
        script(ScriptEdges::four, 1, 9900, 0);
        one("", 9000, true);
        one("", 9001, false);
        one(".b", 9000, true);
        one(".b", 9001, false);
        script(() -> Check.fountain(".?.a.b", "a", "a", "a", "a", "a", "a", "b", "b", "c", "c"), 1, 9099, -1);
        script(() -> Check.fountain(".?.a.b.?", "a", "a", "a", "b"), 1, 9048, -1);
        script(() -> Check.fountain(".?.a.b.?", "a", "a", "a", "b"), 1, 9049, 0);
    }

    private static void whatFails() {
        sentence("The commands 1 to 5 fail if the method would throw an exception; commands with places, directions or walkers "
            + "that do not exist fail, and so does any other group (also one with another digit where a 0 is written).");
        for (int group = 0; group <= 999; group += 37) {
            script(ScriptEdges::four, 1, group, 0);
        }
        for (int digit = 1; digit <= 9; digit++) {
            script(ScriptEdges::four, 1, 2000 + digit, 0);
            script(ScriptEdges::four, 1, 4000 + digit, 0);
            script(ScriptEdges::four, 1, 5001 + 100 * digit, 0);
        }
        for (int digit = 2; digit <= 9; digit++) {
            script(ScriptEdges::four, 1, 6000 + 100 * digit, 0);
            script(ScriptEdges::four, 1, 7000 + 100 * digit, 0);
            script(ScriptEdges::four, 1, 9000 + 100 * digit, 0);
        }
        script(ScriptEdges::four, 1, 999, 0);
        script(ScriptEdges::four, 1, 1030, -1);
        script(ScriptEdges::four, 1, 1040, 0);
        script(ScriptEdges::four, 1, 2040, 0);
        script(ScriptEdges::four, 1, 3050, 0);
        script(ScriptEdges::four, 1, 4040, 0);
    }

    private static void decimalNumbers() {
        sentence("ii, nn and ss are decimal numbers.");
        one("aaaaaaaaaaa", 1100, true);
        one("aaaaaaaaaaa", 1110, false);
        one("aaaaaaaaaaa", 3110, true);
        one("aaaaaaaaaaa", 3120, false);
        one("aaaaaaaaaaa", 2010, true);
        one("aaaaaaaaaaa", 4100, true);
        one("aaaaaaaaaaa", 4110, false);
        one(".a.a.a.a.a.a.a.a.a.a", 6010, true);
        one(".a.a.a.a.a.a.a.a.a.a", 6011, false);
        one(".a.a.a.a.a.a.a.a.a.a", 7110, true);
        one(".a.a.a.a.a.a.a.a.a.a", 7111, false);
        script(ScriptEdges::four, 2, 5010_8102, -1);
    }

    private static void firstThatFails() {
        sentence("Returns the index, from 0, of the first command that fails; NONE if all succeed.");
        script(ScriptEdges::four, 1, 9999, 0);
        script(ScriptEdges::four, 2, 6000_9999, 1);
        script(ScriptEdges::four, 3, 6000_6000_9999L, 2);
        script(ScriptEdges::four, 3, 6000_9999_9999L, 1);
        script(ScriptEdges::four, 3, 9999_9999_9999L, 0);
        script(ScriptEdges::four, 3, 9999_6000_6000L, 0);
        script(ScriptEdges::four, 3, 6000_6000_6000L, -1);
    }

    private static void commands() {
        sentence("`n`: number of commands, 1 to 3");
        Check.due("runScript(1, 6000)", new RingReadings().runScript(1, 6000), -1);
        Check.due("runScript(3, 600060006000)", new RingReadings().runScript(3, 6000_6000_6000L), -1);
        sentence("Throws `IllegalArgumentException` if n is out of range, or if script is negative or has more than 4 * n digits");
        Outside.anywhere("runScript(n, 0)", Check.ARGUMENT, 1, 3, (x, n) -> x.runScript(n, 0));
        Outside.anywhere("runScript(n, -1)", Check.ARGUMENT, 1, 3, (x, n) -> x.runScript(n, -1));
    }

    private static void digits() {
        sentence("`script`: the commands, a number of at most 4 * n digits (0 or more)");
        long most = 1;
        for (int n = 1; n <= 3; n++) {
            int m = n;
            most *= 10000;
            script(Check::busy, n, 0, 0);
            script(Check::busy, n, most - 1, 0);
            for (long script : new long[] {-1, most, -most, -6000, most * 10, Long.MAX_VALUE, Long.MIN_VALUE, 1L << 32, 1L << 62}) {
                if (script < 0 || script >= most) {
                    Check.refuses(Check::busy, "runScript(" + m + ", " + script + ")", Check.ARGUMENT, x -> x.runScript(m, script));
                }
            }
        }
    }
}
