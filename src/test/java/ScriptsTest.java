/** Promises 29 and 30: runScript, simulate. */
public final class ScriptsTest {
    public static void main(String[] args) {
        scripts();
        changes();
        conditions();
        otherGroups();
        wrongScripts();
        simulations();
        Check.finish();
    }

    private static RingReadings fountain() {
        RingReadings x = Check.fountain("ab.cd.", "ab", "cd", "dc");
        x.addWalker(2, 0, 1, 4);
        x.addWalker(5, 1, 2, 1);
        return x;
    }

    private static void script(int n, long script, int want) {
        RingReadings x = fountain();
        String before = Check.picture(x);
        Check.due("runScript(" + n + ", " + script + ")", x.runScript(n, script), want);
        Check.due("all there is, behind runScript(" + n + ", " + script + ")", Check.picture(x), before);
        Check.due("what is remembered", Check.undone(x), 6);
    }

    private static void scripts() {
        script(1, 0, 0);
        script(2, 0, 0);
        script(3, 0, 0);
        script(1, 7002, -1);
        script(2, 7002, 0);
        script(2, 7002_7003, 1);
        script(2, 7002_7002, -1);
        script(3, 7002_7002_7003L, 2);
        script(3, 7002_7003_7002L, 1);
        script(3, 7003_7002_7002L, 0);
        script(3, 7002_7002_7002L, -1);
        script(3, 9999_9999_9999L, 0);
    }

    private static void changes() {
        script(2, 1008_7002, 1);
        script(2, 1000_6003, 1);
        script(2, 1040_6003, 1);
        script(2, 1058_6002, 1);
        script(2, 1058_6001, -1);
        script(1, 1009, 0);
        script(1, 1061, 0);
        script(1, 1051, -1);
        script(2, 2000_7002, -1);
        script(2, 2000_9002, 1);
        script(1, 2050, -1);
        script(1, 2060, 0);
        script(1, 2051, 0);
        script(1, 3060, -1);
        script(1, 3070, 0);
        script(1, 3009, 0);
        script(2, 3010_6003, -1);
        script(2, 3010_8000, 1);
        script(1, 4050, -1);
        script(1, 4060, 0);
        script(1, 4051, 0);
        script(2, 4000_7002, 1);
        script(2, 4000_8000, 1);
        script(3, 4050_4040_4050L, 2);
        script(1, 5001, -1);
        script(1, 5050, -1);
        script(1, 5051, 0);
        script(1, 5000, 0);
        script(1, 5101, 0);
        script(2, 5002_8002, -1);
        script(2, 5001_8002, 1);
        RingReadings full = Check.fountain("abcdefghabcdefghabcdefgh");
        Check.due("insert into 24", full.runScript(1, 3000), 0);
        Check.due("erase, then insert", full.runScript(2, 4230_3230), -1);
        Check.due("insert at 24", full.runScript(3, 4000_3230_1230L), -1);
        Check.due("insert two", full.runScript(3, 4000_3230_3230L), 2);
    }

    private static void conditions() {
        script(1, 6002, -1);
        script(1, 6003, 0);
        script(1, 6102, -1);
        script(1, 6103, 0);
        script(1, 6200, 0);
        script(1, 7002, -1);
        script(1, 7102, 0);
        script(1, 7101, -1);
        script(1, 7200, 0);
        script(1, 8001, -1);
        script(1, 8002, 0);
        script(1, 8100, -1);
        script(1, 8101, 0);
        script(1, 8200, 0);
        script(1, 8900, 0);
        script(1, 9001, -1);
        script(1, 9002, 0);
        script(1, 9100, -1);
        script(1, 9101, 0);
        script(1, 9200, 0);
        RingReadings many = Check.fountain(".a.a.a", "a", "a", "a", "a", "a");
        Check.due("many readings", many.runScript(1, 9099), -1);
        many.removeWord(0);
        Check.due("fewer readings", many.runScript(1, 9064), -1);
        Check.due("not so many readings", many.runScript(1, 9065), 0);
    }

    private static void otherGroups() {
        script(1, 1, 0);
        script(1, 999, 0);
        script(2, 7002_0000, 1);
        script(2, 7002_0999, 1);
    }

    private static void wrongScripts() {
        RingReadings x = fountain();
        Check.refused(x, "runScript(0, 0)", Check.ARGUMENT, () -> x.runScript(0, 0));
        Check.refused(x, "runScript(4, 0)", Check.ARGUMENT, () -> x.runScript(4, 0));
        Check.refused(x, "runScript(-1, 0)", Check.ARGUMENT, () -> x.runScript(-1, 0));
        Check.refused(x, "runScript(1, -1)", Check.ARGUMENT, () -> x.runScript(1, -1));
        Check.refused(x, "runScript(1, 10000)", Check.ARGUMENT, () -> x.runScript(1, 10000));
        Check.refused(x, "runScript(2, 100000000)", Check.ARGUMENT, () -> x.runScript(2, 100000000));
        Check.refused(x, "runScript(3, 1000000000000)", Check.ARGUMENT, () -> x.runScript(3, 1000000000000L));
        Check.refused(x, "runScript(3, the greatest)", Check.ARGUMENT, () -> x.runScript(3, Long.MAX_VALUE));
        Check.refused(x, "runScript(3, the least)", Check.ARGUMENT, () -> x.runScript(3, Long.MIN_VALUE));
    }

    private static void simulations() {
        RingReadings x = fountain();
        Check.refused(x, "simulate(0, 0)", Check.ARGUMENT, () -> x.simulate(0, 0));
        Check.refused(x, "simulate(0, 61)", Check.ARGUMENT, () -> x.simulate(0, 61));
        Check.refused(x, "simulate(0, -1)", Check.ARGUMENT, () -> x.simulate(0, -1));
        RingReadings empty = new RingReadings();
        for (long seed = -200; seed < 200; seed++) {
            for (int m = 1; m <= 60; m += 7) {
                same(x, seed * 0x9E3779B97F4A7C15L, m);
                same(empty, seed, m);
            }
        }
        same(x, Long.MAX_VALUE, 60);
        same(x, Long.MIN_VALUE, 60);
    }

    // The turns are played by the methods themselves on the object, and taken back by a save slot.
    static void same(RingReadings x, long seed, int m) {
        String before = Check.picture(x);
        int got = x.simulate(seed, m);
        Check.due("all there is, behind simulate", Check.picture(x), before);
        x.save(0);
        long turned = seed;
        for (int k = 0; k < m; k++) {
            turned = turned * 6364136223846793005L + 1442695040888963407L;
            play(x, (int) (turned >>> 33));
        }
        int known = 0;
        for (int w = 0; w < x.about(4); w++) {
            known += x.walker(w, 5);
        }
        Check.due("simulate(" + seed + ", " + m + ")", got, 10000 * x.reading(0, 1) + 100 * x.reading(1, 1) + known);
        x.restore(0);
    }

    private static void play(RingReadings x, int r) {
        int kind = r % 16;
        int i = r / 16 % 24;
        try {
            if (kind <= 2) {
                x.carve(i, r / 512 % 9);
            } else if (kind == 3) {
                x.wear(i);
            } else if (kind <= 5) {
                x.insert(i, r / 512 % 9);
            } else if (kind == 6) {
                x.erase(i);
            } else if (kind == 7) {
                x.addWalker(i, r / 512 % 2, 1 + r / 1024 % 3, 1 + r / 4096 % 5);
            } else if (kind == 8) {
                x.turn(r / 16 % 4);
            } else {
                x.go(1 + r / 16 % 9);
            }
        } catch (IndexOutOfBoundsException | IllegalStateException e) {
            // is left out
        }
    }
}
