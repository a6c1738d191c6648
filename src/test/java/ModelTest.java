import java.util.Random;
import java.util.function.IntSupplier;

/** Long runs of calls of all kinds, each answered by the class and by the model. */
public final class ModelTest {
    private static final int RUNS = 1500;
    private static final int CALLS = 512;

    private final Random random;
    private final RingReadings x = new RingReadings();
    private final Model m = new Model();
    private final StringBuilder calls = new StringBuilder();
    private final int alphabet;
    private final int wildness;
    private final int longest;
    private boolean wrong = false;

    private ModelTest(int run) {
        random = new Random(run);
        alphabet = 1 + random.nextInt(random.nextBoolean() ? 2 : 8);
        wildness = random.nextBoolean() ? 60 : 6;
        longest = random.nextBoolean() ? 24 : 1 + random.nextInt(8);
    }

    public static void main(String[] args) {
        int wrong = 0;
        for (int run = 0; run < RUNS && wrong < 5; run++) {
            ModelTest test = new ModelTest(run);
            for (int k = 0; k < CALLS && !test.wrong; k++) {
                test.call();
            }
            if (test.wrong) {
                wrong++;
                System.out.println("run " + run + ":" + test.calls);
            }
        }
        System.out.println(wrong == 0 ? RUNS + " runs, all as the model" : wrong + " runs are not as the model");
        if (wrong != 0) {
            System.exit(1);
        }
    }

    private static String answer(IntSupplier call) {
        try {
            return Integer.toString(call.getAsInt());
        } catch (RuntimeException e) {
            return e.getClass().getSimpleName();
        }
    }

    private void same(String call, IntSupplier ours, IntSupplier theirs) {
        if (wrong) {
            return;
        }
        String got = answer(ours);
        String want = answer(theirs);
        calls.append(' ').append(call).append("=").append(got);
        if (!got.equals(want)) {
            wrong = true;
            calls.append(", due is ").append(want);
        }
    }

    /** Mostly from 0 to end - 1; now and then a little or far outside. */
    private int some(int end) {
        if (random.nextInt(wildness) == 0) {
            int[] odd = {-1, end, end + 1, Integer.MAX_VALUE, Integer.MIN_VALUE, random.nextInt()};
            return odd[random.nextInt(odd.length)];
        }
        return random.nextInt(Math.max(end, 1));
    }

    private int place() {
        return some(x.about(0));
    }

    private void write(String text) {
        same("clearText", x::clearText, m::clearText);
        for (char c : text.toCharArray()) {
            same("append(" + (int) c + ")", () -> x.append(c), () -> m.append(c));
        }
    }

    private String text(String signs, int length) {
        StringBuilder s = new StringBuilder();
        for (int i = 0; i < length; i++) {
            s.append(random.nextInt(wildness * 20) == 0 ? (char) random.nextInt(256) : signs.charAt(random.nextInt(signs.length())));
        }
        return s.toString();
    }

    private void newRing() {
        String letters = "abcdefgh".substring(0, alphabet);
        String signs = (letters + letters + ".....???").substring(0, 2 * alphabet + random.nextInt(9));
        String once = text(signs, some(longest + 1) % 26);
        String ring = random.nextInt(3) == 0 ? once + once : once;
        write(ring);
        same("ring", x::ring, m::ring);
    }

    private void newWord() {
        String word;
        if (random.nextBoolean() && x.about(0) > 0) {
            int from = random.nextInt(x.about(0));
            StringBuilder s = new StringBuilder();
            for (int j = 0; j < 6; j++) {
                int sign = x.at((from + j) % x.about(0));
                if (sign == '.') {
                    break;
                }
                s.append((char) (sign == '?' ? 'a' + random.nextInt(8) : sign));
            }
            word = (random.nextBoolean() ? s : s.reverse()).toString();
        } else {
            word = text("abcdefgh".substring(0, alphabet), some(7) % 9);
        }
        write(word);
        same("addWord", x::addWord, m::addWord);
    }

    private void call() {
        int kind = random.nextInt(100);
        if (kind < 4) {
            newRing();
        } else if (kind < 10) {
            newWord();
        } else if (kind < 45) {
            act();
        } else {
            ask();
        }
    }

    private void act() {
        int i = place();
        int c = some(9);
        int d = some(2);
        int w = some(x.about(4));
        switch (random.nextInt(22)) {
            case 0: case 1: case 2: same("carve(" + i + "," + c + ")", () -> x.carve(i, c), () -> m.carve(i, c)); break;
            case 3: case 4: same("wear(" + i + ")", () -> x.wear(i), () -> m.wear(i)); break;
            case 5: same("insert(" + i + "," + c + ")", () -> x.insert(i, c), () -> m.insert(i, c)); break;
            case 6: same("erase(" + i + ")", () -> x.erase(i), () -> m.erase(i)); break;
            case 7: case 8: case 9: case 10: case 11:
                int pace = 1 + some(3);
                int sight = 1 + some(5);
                same("addWalker(" + i + "," + d + "," + pace + "," + sight + ")", () -> x.addWalker(i, d, pace, sight), () -> m.addWalker(i, d, pace, sight));
                break;
            case 12: case 13: same("turn(" + w + ")", () -> x.turn(w), () -> m.turn(w)); break;
            case 14: case 15: case 16:
                int n = 1 + some(random.nextBoolean() ? 50 : 4);
                same("go(" + n + ")", () -> x.go(n), () -> m.go(n));
                break;
            case 17:
                for (int k = random.nextInt(random.nextInt(4) == 0 ? 17 : 3); k >= 0; k--) {
                    same("undo", x::undo, m::undo);
                }
                break;
            case 18: int word = some(x.about(3)); same("removeWord(" + word + ")", () -> x.removeWord(word), () -> m.removeWord(word)); break;
            case 19: int slot = some(2); same("save(" + slot + ")", () -> x.save(slot), () -> m.save(slot)); break;
            case 20: int back = some(2); same("restore(" + back + ")", () -> x.restore(back), () -> m.restore(back)); break;
            default: int sign = some(256); same("append(" + sign + ")", () -> x.append(sign), () -> m.append(sign)); break;
        }
    }

    private void ask() {
        int i = place();
        int d = some(2);
        int w = some(x.about(4));
        int word = some(x.about(3));
        switch (random.nextInt(18)) {
            case 0: int a = some(9); same("about(" + a + ")", () -> x.about(a), () -> m.about(a)); break;
            case 1: same("at(" + i + ")", () -> x.at(i), () -> m.at(i)); break;
            case 2: int l = some(7); same("letter(" + word + "," + l + ")", () -> x.letter(word, l), () -> m.letter(word, l)); break;
            case 3: case 4: int r = some(4); same("reading(" + d + "," + r + ")", () -> x.reading(d, r), () -> m.reading(d, r)); break;
            case 5: case 6:
                int s = some(1 + Math.min(x.about(1), 12));
                int f = some(5);
                same("segment(" + d + "," + s + "," + f + ")", () -> x.segment(d, s, f), () -> m.segment(d, s, f));
                break;
            case 7: int k = some(3); same("find(" + word + "," + d + "," + k + ")", () -> x.find(word, d, k), () -> m.find(word, d, k)); break;
            case 8: int o = some(7); same("walker(" + w + "," + o + ")", () -> x.walker(w, o), () -> m.walker(w, o)); break;
            case 9: int v = some(x.about(4)); same("meet(" + w + "," + v + ")", () -> x.meet(w, v), () -> m.meet(w, v)); break;
            case 10: same("seesAll(" + w + ")", () -> x.seesAll(w), () -> m.seesAll(w)); break;
            case 11: same("ifWorn(" + i + "," + d + ")", () -> x.ifWorn(i, d), () -> m.ifWorn(i, d)); break;
            case 12: int b = some(2); same("bestDivider(" + d + "," + b + ")", () -> x.bestDivider(d, b), () -> m.bestDivider(d, b)); break;
            case 13: same("bestDirection", x::bestDirection, m::bestDirection); break;
            case 14: same("canBe(" + i + "," + d + ")", () -> x.canBe(i, d), () -> m.canBe(i, d)); break;
            case 15: askScript(); break;
            case 16:
                long seed = random.nextLong();
                int turns = 1 + some(60);
                same("simulate(" + seed + "," + turns + ")", () -> x.simulate(seed, turns), () -> m.simulate(seed, turns));
                break;
            default: boolean t = random.nextBoolean(); same("errorPosition(" + t + ")", () -> x.errorPosition(t), () -> m.errorPosition(t)); break;
        }
    }

    private void askScript() {
        int n = 1 + some(3);
        long script = 0;
        for (int k = 0; k < Math.min(n, 4); k++) {
            script = script * 10000 + group();
        }
        long all = random.nextInt(wildness) == 0 ? random.nextLong() >> random.nextInt(50) : script;
        same("runScript(" + n + "," + all + ")", () -> x.runScript(n, all), () -> m.runScript(n, all));
    }

    private int group() {
        int kind = 1 + random.nextInt(9);
        int place = random.nextInt(x.about(0) + 1);
        switch (random.nextInt(wildness) == 0 ? 0 : kind) {
            case 0: return random.nextInt(10000);
            case 1: case 3: return kind * 1000 + place * 10 + random.nextInt(10);
            case 2: case 4: return kind * 1000 + place * 10;
            case 5: return 5000 + random.nextInt(52);
            case 9: return 9000 + random.nextInt(2) * 100 + random.nextInt(random.nextBoolean() ? 3 : 100);
            default: return kind * 1000 + random.nextInt(2) * 100 + random.nextInt(5);
        }
    }
}
