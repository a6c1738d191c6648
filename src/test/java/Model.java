import java.util.ArrayDeque;
import java.util.ArrayList;
import java.util.Deque;
import java.util.List;
import java.util.TreeSet;

/** The document once more, told with texts, lists and sets, and without a thought of speed. */
final class Model {
    private static final class Walker {
        int place;
        int direction;
        int pace;
        int sight;
        TreeSet<Integer> seen = new TreeSet<>();

        Walker copy() {
            Walker c = new Walker();
            c.place = place;
            c.direction = direction;
            c.pace = pace;
            c.sight = sight;
            c.seen = new TreeSet<>(seen);
            return c;
        }

        void look(int places) {
            for (int j = 0; j < sight; j++) {
                seen.add(Math.floorMod(place + (direction == 0 ? j : -j), places));
            }
        }

        void step(int places) {
            place = Math.floorMod(place + (direction == 0 ? pace : -pace), places);
            look(places);
        }
    }

    private static final class Segment {
        int divider;
        String letters;
        final List<Integer> places = new ArrayList<>();
        final TreeSet<Integer> withDividers = new TreeSet<>();
    }

    private static final class State {
        String ring = "";
        List<String> book = new ArrayList<>();
        List<Walker> walkers = new ArrayList<>();
        int steps;

        State copy() {
            State c = new State();
            c.ring = ring;
            c.book = new ArrayList<>(book);
            for (Walker w : walkers) {
                c.walkers.add(w.copy());
            }
            c.steps = steps;
            return c;
        }

        int places() {
            return ring.length();
        }

        String readFrom(int place, int direction, int length) {
            StringBuilder s = new StringBuilder();
            for (int j = 0; j < length; j++) {
                s.append(ring.charAt(Math.floorMod(place + (direction == 0 ? j : -j), places())));
            }
            return s.toString();
        }

        List<Segment> segments(int direction) {
            List<Integer> dividers = new ArrayList<>();
            for (int j = 0; j < places(); j++) {
                int place = direction == 0 ? j : places() - 1 - j;
                if (ring.charAt(place) == '.') {
                    dividers.add(place);
                }
            }
            List<Segment> all = new ArrayList<>();
            for (int k = 0; k < dividers.size(); k++) {
                int from = dividers.get(k);
                int to = dividers.get((k + 1) % dividers.size());
                Segment s = new Segment();
                s.divider = from;
                int sign = direction == 0 ? 1 : -1;
                for (int p = Math.floorMod(from + sign, places()); p != to; p = Math.floorMod(p + sign, places())) {
                    s.places.add(p);
                }
                s.withDividers.addAll(s.places);
                s.withDividers.add(from);
                s.withDividers.add(to);
                s.letters = readFrom(Math.floorMod(from + sign, places()), direction, s.places.size());
                if (!s.places.isEmpty()) {
                    all.add(s);
                }
            }
            return all;
        }

        List<Integer> fitting(Segment s) {
            List<Integer> all = new ArrayList<>();
            for (int w = 0; w < book.size(); w++) {
                if (book.get(w).matches(s.letters.replace('?', '.'))) {
                    all.add(w);
                }
            }
            return all;
        }

        int sense(int direction) {
            int count = 0;
            for (Segment s : segments(direction)) {
                count += fitting(s).isEmpty() ? 0 : 1;
            }
            return count;
        }

        int readings(int direction) {
            List<Segment> all = segments(direction);
            java.math.BigInteger product = java.math.BigInteger.ONE;
            for (Segment s : all) {
                product = product.multiply(java.math.BigInteger.valueOf(fitting(s).size()));
            }
            return all.isEmpty() ? 0 : product.min(java.math.BigInteger.valueOf(1000000)).intValue();
        }

        int known(Walker w, boolean fitted) {
            int count = 0;
            for (Segment s : segments(w.direction)) {
                if (w.seen.containsAll(s.withDividers) && (!fitted || !fitting(s).isEmpty())) {
                    count++;
                }
            }
            return count;
        }

        int knownTogether() {
            int count = 0;
            for (Walker w : walkers) {
                count += known(w, false);
            }
            return count;
        }
    }

    private final StringBuilder text = new StringBuilder();
    private State now = new State();
    private final Deque<State> past = new ArrayDeque<>();
    private final State[] slots = new State[2];

    private static void exists(boolean is) {
        if (!is) {
            throw new IndexOutOfBoundsException();
        }
    }

    private static void inRange(boolean is) {
        if (!is) {
            throw new IllegalArgumentException();
        }
    }

    private static void possible(boolean is) {
        if (!is) {
            throw new IllegalStateException();
        }
    }

    private void place(int i) {
        exists(0 <= i && i < now.places());
    }

    private static void direction(int d) {
        exists(d == 0 || d == 1);
    }

    private void word(int w) {
        exists(0 <= w && w < now.book.size());
    }

    private Walker there(int w) {
        exists(0 <= w && w < now.walkers.size());
        return now.walkers.get(w);
    }

    private void remember() {
        past.addLast(now.copy());
        if (past.size() > 14) {
            past.removeFirst();
        }
    }

    int append(int c) {
        inRange(c >= 0 && c <= 255);
        possible(text.length() < 40);
        return text.append((char) c).length();
    }

    int clearText() {
        int length = text.length();
        text.setLength(0);
        return length;
    }

    int errorPosition(boolean word) {
        String rule = word ? "[a-h]{0,6}" : "[a-h.?]{0,24}";
        if (text.length() == 0) {
            return 0;
        }
        for (int i = 1; i <= text.length(); i++) {
            if (!text.substring(0, i).matches(rule)) {
                return i - 1;
            }
        }
        return -1;
    }

    int about(int what) {
        inRange(what >= 0 && what <= 8);
        int n = now.places();
        switch (what) {
            case 0: return n;
            case 1: return n - now.ring.replace(".", "").length();
            case 2: return n - now.ring.replace("?", "").length();
            case 3: return now.book.size();
            case 4: return now.walkers.size();
            case 5: return now.steps;
            case 6:
                int best = -1;
                for (int i = 0; i < n; i++) {
                    if (best < 0 || now.readFrom(i, 0, n).compareTo(now.readFrom(best, 0, n)) < 0) {
                        best = i;
                    }
                }
                return best;
            case 7: return n == 0 ? 0 : (now.ring + now.ring).indexOf(now.ring, 1);
            default: return (now.ring + now.ring).contains(new StringBuilder(now.ring).reverse()) ? 1 : 0;
        }
    }

    int at(int i) {
        place(i);
        return now.ring.charAt(i);
    }

    int letter(int w, int i) {
        word(w);
        inRange(i >= 0);
        return i < now.book.get(w).length() ? now.book.get(w).charAt(i) : -1;
    }

    int reading(int d, int what) {
        direction(d);
        inRange(what >= 0 && what <= 3);
        if (what == 1) {
            return now.sense(d);
        }
        if (what == 2) {
            return now.readings(d);
        }
        int longest = 0;
        for (Segment s : now.segments(d)) {
            longest = Math.max(longest, s.places.size());
        }
        return what == 0 ? now.segments(d).size() : longest;
    }

    int segment(int d, int k, int what) {
        direction(d);
        List<Segment> all = now.segments(d);
        exists(k >= 0 && k < all.size());
        inRange(what >= 0 && what <= 4);
        Segment s = all.get(k);
        List<Integer> fitting = now.fitting(s);
        int[] answers = {
            s.divider, s.places.size(), fitting.size(), fitting.isEmpty() ? -1 : fitting.get(0),
            s.letters.length() - s.letters.replace("?", "").length(),
        };
        return answers[what];
    }

    int find(int w, int d, int k) {
        word(w);
        direction(d);
        inRange(k >= 0);
        String word = now.book.get(w);
        List<Integer> all = new ArrayList<>();
        for (int i = 0; i < now.places() && word.length() <= now.places(); i++) {
            String there = now.readFrom(i, d, word.length());
            if (word.matches(there.replace(".", "!").replace('?', '.'))) {
                all.add(i);
            }
        }
        return k < all.size() ? all.get(k) : -1;
    }

    int walker(int w, int what) {
        Walker it = there(w);
        inRange(what >= 0 && what <= 6);
        int[] answers = {
            it.place, it.direction, it.pace, it.sight, it.seen.size(), now.known(it, false), now.known(it, true),
        };
        return answers[what];
    }

    int ring() {
        possible(errorPosition(false) == -1);
        remember();
        now.ring = text.toString();
        now.walkers.clear();
        return now.places();
    }

    int addWord() {
        possible(errorPosition(true) == -1 && now.book.size() < 10);
        remember();
        now.book.add(text.toString());
        return now.book.size() - 1;
    }

    int removeWord(int w) {
        word(w);
        remember();
        now.book.remove(w);
        return now.book.size();
    }

    int carve(int i, int c) {
        place(i);
        inRange(c >= 0 && c <= 8);
        remember();
        int before = now.ring.charAt(i);
        now.ring = now.ring.substring(0, i) + ".abcdefgh".charAt(c) + now.ring.substring(i + 1);
        return before;
    }

    int wear(int i) {
        place(i);
        remember();
        if (now.ring.charAt(i) != '.') {
            now.ring = now.ring.substring(0, i) + "?" + now.ring.substring(i + 1);
        }
        return about(2);
    }

    int insert(int i, int c) {
        exists(i >= 0 && i <= now.places());
        inRange(c >= 0 && c <= 8);
        possible(now.places() < 24);
        remember();
        now.ring = now.ring.substring(0, i) + ".abcdefgh".charAt(c) + now.ring.substring(i);
        now.walkers.clear();
        return now.places();
    }

    int erase(int i) {
        place(i);
        remember();
        now.ring = now.ring.substring(0, i) + now.ring.substring(i + 1);
        now.walkers.clear();
        return now.places();
    }

    int addWalker(int i, int d, int pace, int sight) {
        place(i);
        direction(d);
        inRange(pace >= 1 && pace <= 3 && sight >= 1 && sight <= 5);
        possible(now.walkers.size() < 4);
        remember();
        Walker w = new Walker();
        w.place = i;
        w.direction = d;
        w.pace = pace;
        w.sight = sight;
        w.look(now.places());
        now.walkers.add(w);
        return now.walkers.size() - 1;
    }

    int turn(int w) {
        there(w);
        remember();
        there(w).direction ^= 1;
        there(w).look(now.places());
        return there(w).seen.size();
    }

    int go(int n) {
        inRange(n >= 1 && n <= 50);
        remember();
        for (Walker w : now.walkers) {
            for (int k = 0; k < n; k++) {
                w.step(now.places());
            }
        }
        now.steps += n;
        return now.knownTogether();
    }

    int undo() {
        possible(!past.isEmpty());
        now = past.removeLast();
        return past.size();
    }

    int meet(int w, int v) {
        Walker a = there(w).copy();
        Walker b = there(v).copy();
        possible(w != v);
        for (int n = 0; n < 300; n++) {
            if (a.place == b.place) {
                return n;
            }
            a.step(now.places());
            b.step(now.places());
        }
        return -1;
    }

    int seesAll(int w) {
        Walker a = there(w).copy();
        for (int n = 0; n < 300; n++) {
            if (a.seen.size() == now.places()) {
                return n;
            }
            a.step(now.places());
        }
        return -1;
    }

    private Model twin() {
        Model m = new Model();
        m.now = now.copy();
        return m;
    }

    int ifWorn(int i, int d) {
        place(i);
        direction(d);
        Model m = twin();
        m.wear(i);
        return m.reading(d, 2);
    }

    int bestDivider(int d, int what) {
        direction(d);
        inRange(what == 0 || what == 1);
        int[] best = {-1, -1};
        for (int i = now.places() - 1; i >= 0; i--) {
            Model m = twin();
            if (m.carve(i, 0) != '.' && m.reading(d, 1) >= best[1]) {
                best[0] = i;
                best[1] = m.reading(d, 1);
            }
        }
        return best[what];
    }

    int bestDirection() {
        if (now.sense(0) != now.sense(1)) {
            return now.sense(0) > now.sense(1) ? 0 : 1;
        }
        return now.readings(0) >= now.readings(1) ? 0 : 1;
    }

    int canBe(int i, int d) {
        place(i);
        direction(d);
        int set = 0;
        for (Segment s : now.segments(d)) {
            int index = s.places.indexOf(i);
            for (int w : now.fitting(s)) {
                set |= index < 0 ? 0 : 1 << "abcdefgh".indexOf(now.book.get(w).charAt(index));
            }
        }
        return set;
    }

    int runScript(int n, long script) {
        inRange(n >= 1 && n <= 3 && script >= 0 && Long.toString(script).length() <= 4 * n);
        String digits = String.format("%0" + 4 * n + "d", script);
        Model m = twin();
        for (int k = 0; k < n; k++) {
            if (!m.succeeds(digits.substring(4 * k, 4 * k + 4))) {
                return k;
            }
        }
        return -1;
    }

    private boolean succeeds(String g) {
        int ii = Integer.parseInt(g.substring(1, 3));
        int ss = Integer.parseInt(g.substring(2));
        int one = g.charAt(1) - '0';
        int c = g.charAt(3) - '0';
        try {
            if (g.matches("1...")) {
                carve(ii, c);
            } else if (g.matches("2..0")) {
                wear(ii);
            } else if (g.matches("3...")) {
                insert(ii, c);
            } else if (g.matches("4..0")) {
                erase(ii);
            } else if (g.matches("50..")) {
                go(ss);
            } else if (g.matches("6[01]..")) {
                return reading(one, 0) >= ss;
            } else if (g.matches("7[01]..")) {
                return reading(one, 1) >= ss;
            } else if (g.matches("8...")) {
                return walker(one, 5) >= ss;
            } else if (g.matches("9[01]..")) {
                return reading(one, 2) >= ss;
            } else {
                return false;
            }
            return true;
        } catch (IndexOutOfBoundsException | IllegalArgumentException | IllegalStateException e) {
            return false;
        }
    }

    int simulate(long seed, int m) {
        inRange(m >= 1 && m <= 60);
        Model twin = twin();
        java.math.BigInteger x = java.math.BigInteger.valueOf(seed);
        java.math.BigInteger modulus = java.math.BigInteger.ONE.shiftLeft(64);
        for (int k = 0; k < m; k++) {
            x = x.multiply(java.math.BigInteger.valueOf(6364136223846793005L))
                .add(java.math.BigInteger.valueOf(1442695040888963407L)).mod(modulus);
            twin.play(x.shiftRight(33).intValueExact());
        }
        return 10000 * twin.now.sense(0) + 100 * twin.now.sense(1) + twin.now.knownTogether();
    }

    private void play(int r) {
        int i = r / 16 % 24;
        try {
            switch (r % 16) {
                case 0: case 1: case 2: carve(i, r / 512 % 9); break;
                case 3: wear(i); break;
                case 4: case 5: insert(i, r / 512 % 9); break;
                case 6: erase(i); break;
                case 7: addWalker(i, r / 512 % 2, 1 + r / 1024 % 3, 1 + r / 4096 % 5); break;
                case 8: turn(r / 16 % 4); break;
                default: go(1 + r / 16 % 9); break;
            }
        } catch (IndexOutOfBoundsException | IllegalStateException e) {
            return;
        }
    }

    int save(int slot) {
        exists(slot == 0 || slot == 1);
        slots[slot] = now.copy();
        return now.places();
    }

    int restore(int slot) {
        exists(slot == 0 || slot == 1);
        possible(slots[slot] != null);
        now = slots[slot].copy();
        past.clear();
        return now.places();
    }
}
