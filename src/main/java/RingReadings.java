public final class RingReadings {
    public static final int NONE = -1;

    private static final char DIVIDER = '.';
    private static final char WORN = '?';
    private static final int MOST_PLACES = 24;
    private static final int MOST_WORDS = 10;
    private static final int LONGEST_WORD = 6;
    private static final int MOST_WALKERS = 4;
    private static final int MOST_CHARACTERS = 40;
    private static final int MOST_REMEMBERED = 14;
    private static final int MOST_READINGS = 1000000;
    private static final int SLOTS = 2;

    private final Text text;
    private final State state;
    private final State scratch;
    private final History history;
    private final State[] slots;
    private final boolean[] filled;

    public RingReadings() {
        text = new Text();
        state = new State();
        // What would be is tried on this one state, so that no call makes another.
        scratch = new State();
        history = new History();
        slots = new State[SLOTS];
        for (int i = 0; i < SLOTS; i++) {
            slots[i] = new State();
        }
        filled = new boolean[SLOTS];
    }

    // ---- text

    public int append(int c) throws IllegalArgumentException, IllegalStateException {
        if (c < 0 || c > 255) {
            throw new IllegalArgumentException("not a character code");
        }
        if (text.isFull()) {
            throw new IllegalStateException("the text is full");
        }
        return text.addCharacter((char) c);
    }

    public int clearText() {
        return text.empty();
    }

    public int errorPosition(boolean word) {
        return text.firstError(word);
    }

    // ---- what there is

    public int about(int what) throws IllegalArgumentException {
        if (what < 0 || what > 8) {
            throw new IllegalArgumentException("no such number");
        }
        switch (what) {
            case 0: return state.ring.places;
            case 1: return state.ring.countOf(DIVIDER);
            case 2: return state.ring.countOf(WORN);
            case 3: return state.book.words;
            case 4: return state.walkerCount;
            case 5: return state.steps;
            case 6: return state.ring.beginning();
            case 7: return state.ring.period();
            default: return state.ring.isAsReadBackwards() ? 1 : 0;
        }
    }

    public int at(int i) throws IndexOutOfBoundsException {
        if (!state.ring.hasPlace(i)) {
            throw new IndexOutOfBoundsException("no such place");
        }
        return state.ring.signAt(i);
    }

    public int letter(int w, int i) throws IndexOutOfBoundsException, IllegalArgumentException {
        if (!state.book.hasWord(w)) {
            throw new IndexOutOfBoundsException("no such word");
        }
        if (i < 0) {
            throw new IllegalArgumentException("a negative index");
        }
        return i < state.book.lengthOf(w) ? state.book.letterOf(w, i) : NONE;
    }

    public int reading(int direction, int what) throws IndexOutOfBoundsException, IllegalArgumentException {
        if (!isDirection(direction)) {
            throw new IndexOutOfBoundsException("no such direction");
        }
        if (what < 0 || what > 3) {
            throw new IllegalArgumentException("no such number");
        }
        switch (what) {
            case 0: return state.ring.countSegments(direction);
            case 1: return state.sense(direction);
            case 2: return state.readings(direction);
            default: return state.ring.longestSegment(direction);
        }
    }

    public int segment(int direction, int s, int what) throws IndexOutOfBoundsException, IllegalArgumentException {
        if (!isDirection(direction)) {
            throw new IndexOutOfBoundsException("no such direction");
        }
        int divider = state.ring.dividerAheadOf(direction, s);
        if (divider == NONE) {
            throw new IndexOutOfBoundsException("no such segment");
        }
        if (what < 0 || what > 4) {
            throw new IllegalArgumentException("no such number");
        }
        switch (what) {
            case 0: return divider;
            case 1: return state.ring.segmentLength(divider, direction);
            case 2: return state.book.countFitting(state.ring, divider, direction);
            case 3: return state.book.lowestFitting(state.ring, divider, direction);
            default: return state.ring.wornInSegment(divider, direction);
        }
    }

    public int find(int w, int direction, int k) throws IndexOutOfBoundsException, IllegalArgumentException {
        if (!state.book.hasWord(w) || !isDirection(direction)) {
            throw new IndexOutOfBoundsException("no such word or direction");
        }
        if (k < 0) {
            throw new IllegalArgumentException("a negative count");
        }
        return state.book.placeOf(w, state.ring, direction, k);
    }

    public int walker(int w, int what) throws IndexOutOfBoundsException, IllegalArgumentException {
        if (!state.hasWalker(w)) {
            throw new IndexOutOfBoundsException("no such walker");
        }
        if (what < 0 || what > 6) {
            throw new IllegalArgumentException("no such number");
        }
        switch (what) {
            case 0: return state.walkers[w].place;
            case 1: return state.walkers[w].direction;
            case 2: return state.walkers[w].pace;
            case 3: return state.walkers[w].sight;
            case 4: return state.walkers[w].countSeen();
            case 5: return state.knownBy(w, false);
            default: return state.knownBy(w, true);
        }
    }

    // ---- actions

    public int ring() throws IllegalStateException {
        if (text.firstError(false) != NONE) {
            throw new IllegalStateException("the text is not a ring");
        }
        history.remember(state);
        state.layRing(text);
        return state.ring.places;
    }

    public int addWord() throws IllegalStateException {
        if (text.firstError(true) != NONE) {
            throw new IllegalStateException("the text is not a word");
        }
        if (state.book.isFull()) {
            throw new IllegalStateException("the book is full");
        }
        history.remember(state);
        return state.book.writeDown(text);
    }

    public int removeWord(int w) throws IndexOutOfBoundsException {
        if (!state.book.hasWord(w)) {
            throw new IndexOutOfBoundsException("no such word");
        }
        history.remember(state);
        state.book.strikeOut(w);
        return state.book.words;
    }

    public int carve(int i, int c) throws IndexOutOfBoundsException, IllegalArgumentException {
        if (!state.ring.hasPlace(i)) {
            throw new IndexOutOfBoundsException("no such place");
        }
        if (!isCarvable(c)) {
            throw new IllegalArgumentException("no such sign");
        }
        int before = state.ring.signAt(i);
        history.remember(state);
        state.tryCarve(i, c);
        return before;
    }

    public int wear(int i) throws IndexOutOfBoundsException {
        if (!state.ring.hasPlace(i)) {
            throw new IndexOutOfBoundsException("no such place");
        }
        history.remember(state);
        state.tryWear(i);
        return state.ring.countOf(WORN);
    }

    public int insert(int i, int c) throws IndexOutOfBoundsException, IllegalArgumentException, IllegalStateException {
        if (i < 0 || i > state.ring.places) {
            throw new IndexOutOfBoundsException("no such place");
        }
        if (!isCarvable(c)) {
            throw new IllegalArgumentException("no such sign");
        }
        if (state.ring.isFull()) {
            throw new IllegalStateException("the ring is full");
        }
        history.remember(state);
        state.tryInsert(i, c);
        return state.ring.places;
    }

    public int erase(int i) throws IndexOutOfBoundsException {
        if (!state.ring.hasPlace(i)) {
            throw new IndexOutOfBoundsException("no such place");
        }
        history.remember(state);
        state.tryErase(i);
        return state.ring.places;
    }

    public int addWalker(int i, int direction, int pace, int sight) throws IndexOutOfBoundsException, IllegalArgumentException, IllegalStateException {
        if (!state.ring.hasPlace(i) || !isDirection(direction)) {
            throw new IndexOutOfBoundsException("no such place or direction");
        }
        if (!isPace(pace) || !isSight(sight)) {
            throw new IllegalArgumentException("no such pace or sight");
        }
        if (state.walkerCount >= MOST_WALKERS) {
            throw new IllegalStateException("there are enough walkers");
        }
        history.remember(state);
        state.tryAddWalker(i, direction, pace, sight);
        return state.walkerCount - 1;
    }

    public int turn(int w) throws IndexOutOfBoundsException {
        if (!state.hasWalker(w)) {
            throw new IndexOutOfBoundsException("no such walker");
        }
        history.remember(state);
        state.tryTurn(w);
        return state.walkers[w].countSeen();
    }

    public int go(int n) throws IllegalArgumentException {
        if (!isStepCount(n)) {
            throw new IllegalArgumentException("not a number of steps");
        }
        history.remember(state);
        state.tryGo(n);
        return state.knownByAll();
    }

    public int undo() throws IllegalStateException {
        if (history.isEmpty()) {
            throw new IllegalStateException("nothing is remembered");
        }
        return history.takeBack(state);
    }

    // ---- what would be

    public int meet(int w, int v) throws IndexOutOfBoundsException, IllegalStateException {
        if (!state.hasWalker(w) || !state.hasWalker(v)) {
            throw new IndexOutOfBoundsException("no such walker");
        }
        if (w == v) {
            throw new IllegalStateException("one walker alone");
        }
        return state.stepsToMeet(w, v);
    }

    public int seesAll(int w) throws IndexOutOfBoundsException {
        if (!state.hasWalker(w)) {
            throw new IndexOutOfBoundsException("no such walker");
        }
        return state.walkers[w].stepsToSeeAll(state.ring);
    }

    public int ifWorn(int i, int direction) throws IndexOutOfBoundsException {
        if (!state.ring.hasPlace(i) || !isDirection(direction)) {
            throw new IndexOutOfBoundsException("no such place or direction");
        }
        scratch.copyFrom(state);
        scratch.tryWear(i);
        return scratch.readings(direction);
    }

    public int bestDivider(int direction, int what) throws IndexOutOfBoundsException, IllegalArgumentException {
        if (!isDirection(direction)) {
            throw new IndexOutOfBoundsException("no such direction");
        }
        if (what < 0 || what > 1) {
            throw new IllegalArgumentException("no such number");
        }
        scratch.copyFrom(state);
        int best = NONE;
        int bestSense = NONE;
        for (int i = 0; i < state.ring.places; i++) {
            if (!state.ring.isDivider(i)) {
                scratch.ring.setSign(i, DIVIDER);
                int sense = scratch.sense(direction);
                scratch.ring.setSign(i, state.ring.signAt(i));
                if (sense > bestSense) {
                    best = i;
                    bestSense = sense;
                }
            }
        }
        return what == 0 ? best : bestSense;
    }

    public int bestDirection() {
        int senses = Integer.compare(state.sense(1), state.sense(0));
        int readings = Integer.compare(state.readings(1), state.readings(0));
        return senses > 0 || senses == 0 && readings > 0 ? 1 : 0;
    }

    public int canBe(int i, int direction) throws IndexOutOfBoundsException {
        if (!state.ring.hasPlace(i) || !isDirection(direction)) {
            throw new IndexOutOfBoundsException("no such place or direction");
        }
        int distance = state.ring.distanceFromDivider(i, direction);
        if (distance <= 0) {
            return 0;
        }
        int divider = state.ring.onward(i, 1 - direction, distance);
        return state.book.lettersFitting(state.ring, divider, direction, distance - 1);
    }

    // ---- scripts, simulations

    public int runScript(int n, long script) throws IllegalArgumentException {
        if (n < 1 || n > 3) {
            throw new IllegalArgumentException("not a number of commands");
        }
        long unit = 1;
        for (int k = 0; k < n; k++) {
            unit = unit * 10000;
        }
        if (script < 0 || script >= unit) {
            throw new IllegalArgumentException("not a script of so many commands");
        }
        scratch.copyFrom(state);
        long rest = script;
        for (int k = 0; k < n; k++) {
            unit = Math.max(unit / 10000, 1);
            if (!succeeds(scratch, (int) (rest / unit))) {
                return k;
            }
            rest = rest % unit;
        }
        return NONE;
    }

    public int simulate(long seed, int m) throws IllegalArgumentException {
        if (m < 1 || m > 60) {
            throw new IllegalArgumentException("not a number of turns");
        }
        scratch.copyFrom(state);
        long x = seed;
        for (int k = 0; k < m; k++) {
            x = x * 6364136223846793005L + 1442695040888963407L;
            playTurn(scratch, (int) (x >>> 33));
        }
        return 10000 * scratch.sense(0) + 100 * scratch.sense(1) + scratch.knownByAll();
    }

    // ---- save slots

    public int save(int slot) throws IndexOutOfBoundsException {
        if (slot < 0 || slot >= SLOTS) {
            throw new IndexOutOfBoundsException("no such save slot");
        }
        slots[slot].copyFrom(state);
        filled[slot] = true;
        return state.ring.places;
    }

    public int restore(int slot) throws IndexOutOfBoundsException, IllegalStateException {
        if (slot < 0 || slot >= SLOTS) {
            throw new IndexOutOfBoundsException("no such save slot");
        }
        if (!filled[slot]) {
            throw new IllegalStateException("nothing has been saved in it");
        }
        state.copyFrom(slots[slot]);
        history.forgetAll();
        return state.ring.places;
    }

    // ---- ranges of arguments

    private static boolean isDirection(int direction) {
        return direction == 0 || direction == 1;
    }

    private static boolean isCarvable(int c) {
        return c >= 0 && c <= 8;
    }

    private static char carvedSign(int c) {
        return c == 0 ? DIVIDER : (char) ('a' + c - 1);
    }

    private static boolean isLetter(char c) {
        return c >= 'a' && c <= 'h';
    }

    private static boolean isPace(int pace) {
        return pace >= 1 && pace <= 3;
    }

    private static boolean isSight(int sight) {
        return sight >= 1 && sight <= 5;
    }

    private static boolean isStepCount(int n) {
        return n >= 1 && n <= 50;
    }

    // ---- trials on the scratch state

    private static boolean succeeds(State copy, int command) {
        int second = command / 100 % 10;
        int last = command % 10;
        int place = command / 10 % 100;
        int number = command % 100;
        switch (command / 1000) {
            case 1: return copy.tryCarve(place, last);
            case 2: return last == 0 && copy.tryWear(place);
            case 3: return copy.tryInsert(place, last);
            case 4: return last == 0 && copy.tryErase(place);
            case 5: return second == 0 && copy.tryGo(number);
            case 6: return isDirection(second) && copy.ring.countSegments(second) >= number;
            case 7: return isDirection(second) && copy.sense(second) >= number;
            case 8: return copy.hasWalker(second) && copy.knownBy(second, false) >= number;
            case 9: return isDirection(second) && copy.readings(second) >= number;
            default: return false;
        }
    }

    // What would throw is left out, so nobody asks whether an attempt succeeded.
    private static void playTurn(State copy, int r) {
        int i = r / 16 % 24;
        switch (r % 16) {
            case 0:
            case 1:
            case 2:
                copy.tryCarve(i, r / 512 % 9);
                break;
            case 3:
                copy.tryWear(i);
                break;
            case 4:
            case 5:
                copy.tryInsert(i, r / 512 % 9);
                break;
            case 6:
                copy.tryErase(i);
                break;
            case 7:
                copy.tryAddWalker(i, r / 512 % 2, 1 + r / 1024 % 3, 1 + r / 4096 % 5);
                break;
            case 8:
                copy.tryTurn(r / 16 % 4);
                break;
            default:
                copy.tryGo(1 + r / 16 % 9);
                break;
        }
    }

    private static final class Text {
        private final char[] characters = new char[MOST_CHARACTERS];
        private int length;

        boolean isFull() {
            return length >= MOST_CHARACTERS;
        }

        int addCharacter(char c) {
            if (length < MOST_CHARACTERS) {
                characters[length] = c;
                length++;
            }
            return length;
        }

        int empty() {
            int before = length;
            length = 0;
            return before;
        }

        int firstError(boolean word) {
            int limit = word ? LONGEST_WORD : MOST_PLACES;
            for (int i = 0; i < length; i++) {
                if (i >= limit || !isAllowed(characters[i], word)) {
                    return i;
                }
            }
            return length == 0 ? 0 : NONE;
        }

        private static boolean isAllowed(char c, boolean word) {
            return isLetter(c) || !word && (c == DIVIDER || c == WORN);
        }
    }

    private static final class Ring {
        // Signs are kept as their codes: these stand in the order that the beginning asks for.
        private final char[] signs = new char[MOST_PLACES];
        private int places;

        void copyFrom(Ring other) {
            System.arraycopy(other.signs, 0, signs, 0, MOST_PLACES);
            places = other.places;
        }

        void layText(Text text) {
            places = Math.min(text.length, MOST_PLACES);
            System.arraycopy(text.characters, 0, signs, 0, places);
        }

        boolean isFull() {
            return places >= MOST_PLACES;
        }

        boolean hasPlace(int i) {
            return i >= 0 && i < places;
        }

        char signAt(int i) {
            return i >= 0 && i < places ? signs[i] : DIVIDER;
        }

        boolean isDivider(int i) {
            return i >= 0 && i < places && signs[i] == DIVIDER;
        }

        void setSign(int i, char sign) {
            if (hasPlace(i)) {
                signs[i] = sign;
            }
        }

        void putIn(int i, char sign) {
            if (i < 0 || i > places || isFull()) {
                return;
            }
            for (int j = places; j > i; j--) {
                signs[j] = signs[j - 1];
            }
            signs[i] = sign;
            places++;
        }

        void takeOut(int i) {
            if (!hasPlace(i)) {
                return;
            }
            for (int j = i + 1; j < places; j++) {
                signs[j - 1] = signs[j];
            }
            places--;
        }

        int onward(int place, int direction, int distance) {
            if (places <= 0) {
                return 0;
            }
            int moved = (direction == 0 ? place + distance : place - distance) % places;
            return moved < 0 ? moved + places : moved;
        }

        int countOf(char sign) {
            int count = 0;
            for (int i = 0; i < places; i++) {
                if (signs[i] == sign) {
                    count++;
                }
            }
            return count;
        }

        int beginning() {
            if (places == 0) {
                return NONE;
            }
            int best = 0;
            for (int i = 1; i < places; i++) {
                if (readsLess(i, best)) {
                    best = i;
                }
            }
            return best;
        }

        private boolean readsLess(int from, int than) {
            for (int j = 0; j < places; j++) {
                int order = signAt(onward(from, 0, j)) - signAt(onward(than, 0, j));
                if (order != 0) {
                    return order < 0;
                }
            }
            return false;
        }

        int period() {
            for (int turned = 1; turned < places; turned++) {
                if (readsAsFromZero(turned, 0)) {
                    return turned;
                }
            }
            return places;
        }

        // A ring that is a turned mirror image of itself reads so from one place at least.
        boolean isAsReadBackwards() {
            for (int i = 0; i < places; i++) {
                if (readsAsFromZero(i, 1)) {
                    return true;
                }
            }
            return places == 0;
        }

        private boolean readsAsFromZero(int from, int direction) {
            for (int j = 0; j < places; j++) {
                if (signs[j] != signAt(onward(from, direction, j))) {
                    return false;
                }
            }
            return true;
        }

        // 0 where no segment begins: there is no divider, or another one stands next to it.
        int segmentLength(int divider, int direction) {
            if (!isDivider(divider)) {
                return 0;
            }
            for (int length = 0; length < places - 1; length++) {
                if (isDivider(onward(divider, direction, length + 1))) {
                    return length;
                }
            }
            return Math.max(places - 1, 0);
        }

        int countSegments(int direction) {
            int count = 0;
            for (int i = 0; i < places; i++) {
                if (segmentLength(i, direction) > 0) {
                    count++;
                }
            }
            return count;
        }

        int longestSegment(int direction) {
            int longest = 0;
            for (int i = 0; i < places; i++) {
                longest = Math.max(longest, segmentLength(i, direction));
            }
            return longest;
        }

        int dividerAheadOf(int direction, int segment) {
            int passed = 0;
            for (int j = 0; j < places; j++) {
                int place = direction == 0 ? j : places - 1 - j;
                if (segmentLength(place, direction) > 0) {
                    if (passed == segment) {
                        return place;
                    }
                    passed++;
                }
            }
            return NONE;
        }

        int wornInSegment(int divider, int direction) {
            int length = segmentLength(divider, direction);
            int count = 0;
            for (int j = 1; j <= length; j++) {
                if (signAt(onward(divider, direction, j)) == WORN) {
                    count++;
                }
            }
            return count;
        }

        // How far behind its segment's divider a place stands: 0 for a divider, NONE without one.
        int distanceFromDivider(int place, int direction) {
            for (int distance = 0; distance < places; distance++) {
                if (isDivider(onward(place, 1 - direction, distance))) {
                    return distance;
                }
            }
            return NONE;
        }
    }

    private static final class Book {
        private final char[] letters = new char[MOST_WORDS * LONGEST_WORD];
        private final int[] lengths = new int[MOST_WORDS];
        private int words;

        void copyFrom(Book other) {
            System.arraycopy(other.letters, 0, letters, 0, MOST_WORDS * LONGEST_WORD);
            System.arraycopy(other.lengths, 0, lengths, 0, MOST_WORDS);
            words = other.words;
        }

        boolean isFull() {
            return words >= MOST_WORDS;
        }

        boolean hasWord(int w) {
            return w >= 0 && w < words;
        }

        int lengthOf(int w) {
            return w >= 0 && w < words ? lengths[w] : 0;
        }

        char letterOf(int w, int i) {
            if (w < 0 || w >= words || i < 0 || i >= lengths[w]) {
                return DIVIDER;
            }
            return letters[w * LONGEST_WORD + i];
        }

        int writeDown(Text text) {
            if (isFull()) {
                return NONE;
            }
            int length = Math.min(text.length, LONGEST_WORD);
            System.arraycopy(text.characters, 0, letters, words * LONGEST_WORD, length);
            lengths[words] = length;
            words++;
            return words - 1;
        }

        void strikeOut(int w) {
            if (!hasWord(w)) {
                return;
            }
            int behind = words - 1 - w;
            System.arraycopy(letters, (w + 1) * LONGEST_WORD, letters, w * LONGEST_WORD, behind * LONGEST_WORD);
            System.arraycopy(lengths, w + 1, lengths, w, behind);
            words--;
        }

        boolean standsFrom(int w, Ring ring, int place, int direction) {
            int length = lengthOf(w);
            if (length > ring.places) {
                return false;
            }
            for (int j = 0; j < length; j++) {
                char sign = ring.signAt(ring.onward(place, direction, j));
                if (sign != WORN && sign != letterOf(w, j)) {
                    return false;
                }
            }
            return true;
        }

        int placeOf(int w, Ring ring, int direction, int k) {
            int passed = 0;
            for (int i = 0; i < ring.places; i++) {
                if (standsFrom(w, ring, i, direction)) {
                    if (passed == k) {
                        return i;
                    }
                    passed++;
                }
            }
            return NONE;
        }

        boolean fits(int w, Ring ring, int divider, int direction) {
            return lengthOf(w) == ring.segmentLength(divider, direction)
                && standsFrom(w, ring, ring.onward(divider, direction, 1), direction);
        }

        int countFitting(Ring ring, int divider, int direction) {
            int count = 0;
            for (int w = 0; w < words; w++) {
                if (fits(w, ring, divider, direction)) {
                    count++;
                }
            }
            return count;
        }

        int lowestFitting(Ring ring, int divider, int direction) {
            for (int w = 0; w < words; w++) {
                if (fits(w, ring, divider, direction)) {
                    return w;
                }
            }
            return NONE;
        }

        int lettersFitting(Ring ring, int divider, int direction, int index) {
            int set = 0;
            for (int w = 0; w < words; w++) {
                if (index < lengthOf(w) && fits(w, ring, divider, direction)) {
                    set |= 1 << (letterOf(w, index) - 'a');
                }
            }
            return set;
        }
    }

    private static final class Walker {
        private int place;
        private int direction;
        private int pace;
        private int sight;
        // Bit i stands for the place i.
        private int seen;

        void copyFrom(Walker other) {
            place = other.place;
            direction = other.direction;
            pace = other.pace;
            sight = other.sight;
            seen = other.seen;
        }

        int countSeen() {
            return Integer.bitCount(seen);
        }

        int placeAfter(int steps, Ring ring) {
            return ring.onward(place, direction, steps * pace);
        }

        private int viewFrom(int from, Ring ring) {
            int view = 0;
            for (int j = 0; j < sight; j++) {
                view |= 1 << ring.onward(from, direction, j);
            }
            return view;
        }

        void look(Ring ring) {
            seen |= viewFrom(place, ring);
        }

        void step(Ring ring) {
            place = placeAfter(1, ring);
            seen |= viewFrom(place, ring);
        }

        // After as many steps as there are places, the walker is back and sees nothing new.
        int stepsToSeeAll(Ring ring) {
            int all = (1 << ring.places) - 1;
            int view = seen;
            for (int steps = 0; steps <= ring.places; steps++) {
                view |= viewFrom(placeAfter(steps, ring), ring);
                if (view == all) {
                    return steps;
                }
            }
            return NONE;
        }

        boolean knows(Ring ring, int divider) {
            int length = ring.segmentLength(divider, direction);
            if (length == 0) {
                return false;
            }
            for (int j = 0; j <= length + 1; j++) {
                if ((seen >> ring.onward(divider, direction, j) & 1) == 0) {
                    return false;
                }
            }
            return true;
        }
    }

    private static final class State {
        private final Ring ring = new Ring();
        private final Book book = new Book();
        private final Walker[] walkers = new Walker[MOST_WALKERS];
        private int walkerCount;
        private int steps;

        State() {
            for (int w = 0; w < MOST_WALKERS; w++) {
                walkers[w] = new Walker();
            }
        }

        void copyFrom(State other) {
            ring.copyFrom(other.ring);
            book.copyFrom(other.book);
            for (int w = 0; w < MOST_WALKERS; w++) {
                walkers[w].copyFrom(other.walkers[w]);
            }
            walkerCount = other.walkerCount;
            steps = other.steps;
        }

        boolean hasWalker(int w) {
            return w >= 0 && w < walkerCount;
        }

        int sense(int direction) {
            int count = 0;
            for (int i = 0; i < ring.places; i++) {
                if (book.lowestFitting(ring, i, direction) != NONE) {
                    count++;
                }
            }
            return count;
        }

        int readings(int direction) {
            // At most 12 segments and 10 words: the product stays far below a long's end.
            long product = 1;
            int segments = 0;
            for (int i = 0; i < ring.places; i++) {
                if (ring.segmentLength(i, direction) > 0) {
                    product = product * book.countFitting(ring, i, direction);
                    segments++;
                }
            }
            return segments == 0 ? 0 : (int) Math.min(product, MOST_READINGS);
        }

        int knownBy(int w, boolean fittedAlone) {
            if (!hasWalker(w)) {
                return 0;
            }
            Walker walker = walkers[w];
            int count = 0;
            for (int i = 0; i < ring.places; i++) {
                if (walker.knows(ring, i)
                    && (!fittedAlone || book.lowestFitting(ring, i, walker.direction) != NONE)) {
                    count++;
                }
            }
            return count;
        }

        int knownByAll() {
            int count = 0;
            for (int w = 0; w < walkerCount; w++) {
                count += knownBy(w, false);
            }
            return count;
        }

        // After as many steps as there are places, both are where they were.
        int stepsToMeet(int w, int v) {
            if (!hasWalker(w) || !hasWalker(v)) {
                return NONE;
            }
            for (int n = 0; n < ring.places; n++) {
                if (walkers[w].placeAfter(n, ring) == walkers[v].placeAfter(n, ring)) {
                    return n;
                }
            }
            return NONE;
        }

        void layRing(Text text) {
            ring.layText(text);
            walkerCount = 0;
        }

        // Each attempt answers whether it was possible, and changes nothing if it was not.

        boolean tryCarve(int i, int c) {
            if (!ring.hasPlace(i) || !isCarvable(c)) {
                return false;
            }
            ring.setSign(i, carvedSign(c));
            return true;
        }

        boolean tryWear(int i) {
            if (!ring.hasPlace(i)) {
                return false;
            }
            if (isLetter(ring.signAt(i))) {
                ring.setSign(i, WORN);
            }
            return true;
        }

        boolean tryInsert(int i, int c) {
            if (i < 0 || i > ring.places || !isCarvable(c) || ring.isFull()) {
                return false;
            }
            ring.putIn(i, carvedSign(c));
            walkerCount = 0;
            return true;
        }

        boolean tryErase(int i) {
            if (!ring.hasPlace(i)) {
                return false;
            }
            ring.takeOut(i);
            walkerCount = 0;
            return true;
        }

        boolean tryAddWalker(int i, int direction, int pace, int sight) {
            if (!ring.hasPlace(i) || !isDirection(direction) || !isPace(pace) || !isSight(sight)
                || walkerCount >= MOST_WALKERS) {
                return false;
            }
            Walker walker = walkers[walkerCount];
            walker.place = i;
            walker.direction = direction;
            walker.pace = pace;
            walker.sight = sight;
            walker.seen = 0;
            walker.look(ring);
            walkerCount++;
            return true;
        }

        boolean tryTurn(int w) {
            if (!hasWalker(w)) {
                return false;
            }
            walkers[w].direction = 1 - walkers[w].direction;
            walkers[w].look(ring);
            return true;
        }

        boolean tryGo(int n) {
            if (!isStepCount(n)) {
                return false;
            }
            for (int k = 0; k < n; k++) {
                for (int w = 0; w < walkerCount; w++) {
                    walkers[w].step(ring);
                }
            }
            steps += n;
            return true;
        }
    }

    // The rows are made once and used in turn: a new state takes the oldest one's row.
    private static final class History {
        private final State[] rows = new State[MOST_REMEMBERED];
        private int oldest;
        private int count;

        History() {
            for (int i = 0; i < MOST_REMEMBERED; i++) {
                rows[i] = new State();
            }
        }

        boolean isEmpty() {
            return count == 0;
        }

        void forgetAll() {
            count = 0;
        }

        void remember(State state) {
            rows[(oldest + count) % MOST_REMEMBERED].copyFrom(state);
            if (count < MOST_REMEMBERED) {
                count++;
            } else {
                oldest = (oldest + 1) % MOST_REMEMBERED;
            }
        }

        int takeBack(State state) {
            if (count > 0) {
                count--;
                state.copyFrom(rows[(oldest + count) % MOST_REMEMBERED]);
            }
            return count;
        }
    }
}
