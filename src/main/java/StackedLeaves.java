/**
 * Stacked leaves of a spring: how far a load bends them, which of them bear it, which break,
 * and which one is broken already. The numbered promises of ../shared/DOC.md say what each call does.
 *
 * Sets of leaves are bits throughout: leaf i is the bit 1 << i. Every row is made once, in a
 * constructor, so that no call makes an object.
 */
public final class StackedLeaves {
    public static final int BAD = -1, STATE = -2, FULL = -3, NONE = -9;
    public static final int NO = -1000000, NOT = -2000000;

    private static final int MOST_LEAVES = 8;
    private static final int MOST_LETTERS = 100;
    private static final int MOST_LETTER = 255;
    private static final int MOST_UNDONE = 6;
    private static final int MOST_SEEN = 6;
    private static final int MOST_IMAGES = 2;
    private static final int MOST_LOAD = 999;
    private static final int MOST_BEND = 99;
    private static final int MOST_SEEN_BEND = 9999;
    private static final int FAULT_BASE = -10;

    private static final int ASKED_STEP = 10;
    private static final int MOST_ASKED = 300;

    /** Far above what halving a range or Euclid's division ever needs. */
    private static final int MOST_STEPS = 1000;

    private static final int ALL = (1 << MOST_LEAVES) - 1;

    /** The numbers of a leaf, in the order in which a text tells them and leaf() counts them. */
    private static final int LENGTH = 0, STIFF = 1, CAMBER = 2, STRENGTH = 3, NUMBERS = 4;
    private static final int[] LEAST_NUMBER = {1, 1, 0, 1};
    private static final int[] MOST_NUMBER = {9, 9, 30, 99};

    private final Leaves leaves;
    private final Leaves draft;
    private final Text text;
    private final History history;
    private final Images images;
    private final Sightings sightings;
    private final Pack pack;
    private final int[] cuts;

    public StackedLeaves() {
        leaves = new Leaves();
        draft = new Leaves();
        text = new Text();
        history = new History();
        images = new Images();
        sightings = new Sightings();
        pack = new Pack();
        cuts = new int[MOST_LEAVES + 1];
    }

    // ---- what is told

    public int type(int letter) {
        if (letter < 0 || letter > MOST_LETTER) {
            return BAD;
        }
        return text.append(letter) ? text.size : FULL;
    }

    public int clear() {
        return text.empty();
    }

    public int tells() {
        int fault = text.readInto(draft);
        if (fault != Text.NO_FAULT) {
            return FAULT_BASE - fault;
        }
        history.push(leaves);
        leaves.become(draft);
        sightings.empty();
        images.empty();
        text.empty();
        return leaves.size;
    }

    // ---- what is done

    public int loads(int p) {
        if (!isLoad(p)) {
            return BAD;
        }
        stackAll(leaves.whole);
        int left = pack.wholeAfter(p);
        int broken = Integer.bitCount(leaves.whole) - Integer.bitCount(left);
        history.push(leaves);
        leaves.whole = left;
        return broken;
    }

    public int breaks(int leaf) {
        if (!leaves.exists(leaf)) {
            return BAD;
        }
        if (!leaves.isWhole(leaf)) {
            return STATE;
        }
        history.push(leaves);
        leaves.whole &= ~(1 << leaf);
        return Integer.bitCount(leaves.whole);
    }

    public int mends(int leaf) {
        if (!leaves.exists(leaf)) {
            return BAD;
        }
        if (leaves.isWhole(leaf)) {
            return STATE;
        }
        history.push(leaves);
        leaves.whole |= 1 << leaf;
        return Integer.bitCount(leaves.whole);
    }

    public int cambers(int leaf, int c) {
        if (!leaves.exists(leaf) || c < LEAST_NUMBER[CAMBER] || c > MOST_NUMBER[CAMBER]) {
            return BAD;
        }
        int before = leaves.number(CAMBER, leaf);
        if (before == c) {
            return STATE;
        }
        history.push(leaves);
        leaves.put(CAMBER, leaf, c);
        return before;
    }

    public int undo() {
        return history.popInto(leaves) ? history.size : STATE;
    }

    // ---- as it is

    public int leaf(int leaf, int what) {
        if (!leaves.exists(leaf)) {
            return BAD;
        }
        switch (what) {
            case LENGTH:
            case STIFF:
            case CAMBER:
            case STRENGTH:
                return leaves.number(what, leaf);
            case 4:
                return leaves.isWhole(leaf) ? 1 : 0;
            case 5:
                return leaves.nip(leaf - 1, leaf);
            case 6:
                stackAll(leaves.whole);
                return pack.reach[leaf];
            default:
                return BAD;
        }
    }

    // ---- under a load

    public int bend(int p, int what) {
        if (!isLoad(p) || what < 0 || what > 2) {
            return BAD;
        }
        stackAll(leaves.whole);
        if (!pack.press(p)) {
            return NONE;
        }
        return what == 2 ? pack.cut() : partInLowestTerms(pack.upper, pack.lower, what);
    }

    public int bears(int leaf, int p, int what) {
        if (!leaves.exists(leaf) || !isLoad(p) || what < 0 || what > 2) {
            return BAD;
        }
        stackAll(leaves.whole);
        if (!pack.press(p)) {
            return NONE;
        }
        if (what == 2) {
            return pack.excess(leaf) > 0 ? 1 : 0;
        }
        return partInLowestTerms(pack.borne(leaf), pack.lower, what);
    }

    public int rate(int p) {
        if (!isLoad(p)) {
            return BAD;
        }
        stackAll(leaves.whole);
        return pack.press(p) ? pack.pressedStiff : NONE;
    }

    public int least(int what) {
        if (what < 0 || what > 2) {
            return BAD;
        }
        stackAll(leaves.whole);
        int p = pack.leastTooMuch();
        if (p > MOST_LOAD) {
            return NONE;
        }
        if (what == 0) {
            return p;
        }
        if (what == 1) {
            return pack.firstToBreak(p);
        }
        return Integer.bitCount(leaves.whole) - Integer.bitCount(pack.wholeAfter(p));
    }

    public int knee(int k) {
        if (k < -1) {
            return BAD;
        }
        stackAll(leaves.whole);
        int found = 0;
        int latest = 0;
        // REACH never falls from leaf to leaf, so the loads come rising, equal ones side by side
        for (int i = 0; i < leaves.size; i++) {
            int load = leaves.isWhole(i) ? pack.loadAt(pack.reach[i]) : 0;
            if (load > latest) {
                if (found == k) {
                    return load;
                }
                found++;
                latest = load;
            }
        }
        return k == -1 ? found : NONE;
    }

    public int chosen(int p, int d, int what) {
        if (!isLoad(p) || d < 0 || d > MOST_BEND || what < 0 || what > 1) {
            return BAD;
        }
        int fewest = fewestThatHold(p, d);
        if (fewest == 0) {
            return NONE;
        }
        return what == 0 ? Integer.bitCount(fewest) : fewest;
    }

    // ---- which leaf

    public int sees(int p, int n) {
        if (!isLoad(p) || (n != NONE && (n < 0 || n > MOST_SEEN_BEND))) {
            return BAD;
        }
        return sightings.append(p, n) ? sightings.size : FULL;
    }

    public int forget() {
        return sightings.empty();
    }

    public int which(int what) {
        if (what < 0 || what > 1) {
            return NO;
        }
        int suspects = suspects();
        if (what == 0) {
            return Integer.bitCount(suspects);
        }
        for (int s = 0; s <= leaves.size; s++) {
            if (holds(suspects, s)) {
                return s - 1;
            }
        }
        return NOT;
    }

    public int ask() {
        int suspects = suspects();
        if (Integer.bitCount(suspects) < 2) {
            return NONE;
        }
        int best = NONE;
        int fewest = MOST_LEAVES + 2;
        for (int p = ASKED_STEP; p <= MOST_ASKED; p += ASKED_STEP) {
            int alike = mostAlike(suspects, p);
            if (alike < fewest) {
                best = p;
                fewest = alike;
            }
        }
        return best;
    }

    // ---- images

    public int keep(int image) {
        if (image < 0 || image >= MOST_IMAGES) {
            return BAD;
        }
        images.put(image, leaves);
        return leaves.size;
    }

    public int back(int image) {
        if (image < 0 || image >= MOST_IMAGES) {
            return BAD;
        }
        if (!images.getInto(image, leaves)) {
            return STATE;
        }
        history.empty();
        return leaves.size;
    }

    public int count(int what) {
        switch (what) {
            case 0:
                return leaves.size;
            case 1:
                return Integer.bitCount(leaves.whole);
            case 2:
                return leaves.sum(STIFF, leaves.whole);
            case 3:
                return leaves.sum(LENGTH, ALL);
            case 4:
                return leaf(leaves.size - 1, 6);
            case 5:
                return sightings.size;
            case 6:
                return text.size;
            case 7:
                return history.size;
            default:
                return BAD;
        }
    }

    // ---- what the calls share

    private static boolean isLoad(int p) {
        return p >= 0 && p <= MOST_LOAD;
    }

    private static boolean holds(int bits, int place) {
        return (bits >> place & 1) != 0;
    }

    private void stackAll(int whole) {
        pack.stack(leaves, ALL, whole);
    }

    /** The upper (part 0) or the lower (part 1) number of a fraction in lowest terms. */
    private static int partInLowestTerms(int upper, int lower, int part) {
        int divisor = greatestDivisor(upper, lower);
        return (part == 0 ? upper : lower) / divisor;
    }

    /** At least 1, so that it can always divide. */
    private static int greatestDivisor(int a, int b) {
        int greater = a;
        int rest = b;
        for (int step = 0; rest > 0 && step < MOST_STEPS; step++) {
            int next = greater % rest;
            greater = rest;
            rest = next;
        }
        return Math.max(1, greater);
    }

    /** CHOSEN, as bits; 0: there is no such pack. */
    private int fewestThatHold(int p, int d) {
        int uppermost = leaves.whole & -leaves.whole;
        int best = 0;
        for (int bits = 1; bits <= ALL; bits++) {
            boolean may = (bits & ~leaves.whole) == 0 && (bits & uppermost) != 0;
            // bits rise, so that of as many leaves the least bits came first
            if (may && (best == 0 || Integer.bitCount(bits) < Integer.bitCount(best))) {
                pack.stack(leaves, bits, bits);
                if (pack.bearsWithin(p, d)) {
                    best = bits;
                }
            }
        }
        return best;
    }

    /** By which leaf's break, or by none's, all that was SEEN is so: bit 0 is none, bit i + 1 leaf i. */
    private int suspects() {
        int found = 0;
        for (int s = 0; s <= leaves.size; s++) {
            if (s == 0 || leaves.isWhole(s - 1)) {
                stackSuspect(s);
                if (sightings.agreeWith(pack)) {
                    found |= 1 << s;
                }
            }
        }
        return found;
    }

    private void stackSuspect(int s) {
        int broken = s == 0 ? 0 : 1 << (s - 1);
        stackAll(leaves.whole & ~broken);
    }

    /** The greatest number of suspects that a load bends alike, cut. */
    private int mostAlike(int suspects, int p) {
        int most = 0;
        for (int s = 0; s <= leaves.size; s++) {
            if (holds(suspects, s)) {
                stackSuspect(s);
                cuts[s] = pack.cutBy(p);
                most = Math.max(most, alikeUpTo(suspects, s));
            }
        }
        return most;
    }

    private int alikeUpTo(int suspects, int last) {
        int alike = 0;
        for (int s = 0; s <= last; s++) {
            if (holds(suspects, s) && cuts[s] == cuts[last]) {
                alike++;
            }
        }
        return alike;
    }

    /** All that is done and undone: the leaves, their numbers, and which are whole. */
    private static final class Leaves {
        private final int[] numbers = new int[NUMBERS * MOST_LEAVES];
        private int size;
        private int whole;

        Leaves() {
            size = 1;
            whole = 1;
            numbers[LENGTH * MOST_LEAVES] = 1;
            numbers[STIFF * MOST_LEAVES] = 1;
            numbers[CAMBER * MOST_LEAVES] = 0;
            numbers[STRENGTH * MOST_LEAVES] = 99;
        }

        void become(Leaves other) {
            System.arraycopy(other.numbers, 0, numbers, 0, NUMBERS * MOST_LEAVES);
            size = other.size;
            whole = other.whole;
        }

        void empty() {
            size = 0;
            whole = 0;
        }

        /** The numbers of the leaf behind the last one have been put: it is one of the leaves now. */
        void appendWhole() {
            if (size < MOST_LEAVES) {
                whole |= 1 << size;
                size++;
            }
        }

        boolean exists(int leaf) {
            return leaf >= 0 && leaf < size;
        }

        boolean isWhole(int leaf) {
            return holds(whole, leaf);
        }

        int number(int what, int leaf) {
            return numbers[what * MOST_LEAVES + leaf];
        }

        void put(int what, int leaf, int number) {
            numbers[what * MOST_LEAVES + leaf] = number;
        }

        /** The most that a number of the leaf behind the last one may be. */
        int mostOfNext(int what) {
            return what == LENGTH && size > 0 ? number(LENGTH, size - 1) : MOST_NUMBER[what];
        }

        /** NIP of a leaf below another one; above is -1 for the uppermost leaf. */
        int nip(int above, int leaf) {
            return above < 0 ? 0 : Math.max(0, number(CAMBER, above) - number(CAMBER, leaf));
        }

        int sum(int what, int bits) {
            int sum = 0;
            for (int i = 0; i < size; i++) {
                if (holds(bits, i)) {
                    sum += number(what, i);
                }
            }
            return sum;
        }
    }

    /** Some leaves on one another, and how a load bends them; nothing here changes the leaves. */
    private static final class Pack {
        private final int[] reach = new int[MOST_LEAVES];
        private final int[] stiff = new int[MOST_LEAVES];
        private final int[] strength = new int[MOST_LEAVES];
        private int size;
        private int bearers;
        /** BEND by the load of the latest press() that answered true; lower is above 0 then. */
        private int upper;
        private int lower;
        private int pressedStiff;

        void stack(Leaves from, int members, int whole) {
            size = from.size;
            bearers = members & whole;
            int above = -1;
            int reached = 0;
            for (int i = 0; i < size; i++) {
                if (holds(members, i)) {
                    reached += from.nip(above, i);
                    above = i;
                }
                reach[i] = reached;
                stiff[i] = from.number(STIFF, i);
                strength[i] = from.number(STRENGTH, i);
            }
        }

        /** Whether there is a BEND by a load. */
        boolean press(int p) {
            int stiffs = 0;
            int stiffReaches = 0;
            // a leaf is reached if those above it, bent as far as to it, bear less than the load
            for (int i = 0; i < size; i++) {
                if (holds(bearers, i) && stiffs * reach[i] - stiffReaches < p) {
                    stiffs += stiff[i];
                    stiffReaches += stiff[i] * reach[i];
                }
            }
            upper = p + stiffReaches;
            lower = p == 0 ? 1 : stiffs;
            pressedStiff = stiffs;
            return lower > 0;
        }

        int cut() {
            return lower > 0 ? upper / lower : NONE;
        }

        int cutBy(int p) {
            return press(p) ? cut() : NONE;
        }

        /** What a leaf bears, times lower. */
        int borne(int leaf) {
            return holds(bearers, leaf) ? stiff[leaf] * Math.max(0, upper - reach[leaf] * lower) : 0;
        }

        /** What a leaf bears beyond its strength, times lower. */
        int excess(int leaf) {
            return borne(leaf) - strength[leaf] * lower;
        }

        /** Of the leaves for which there is TOO MUCH by a load that which breaks first; -1: none. */
        int firstToBreak(int p) {
            if (!press(p)) {
                return -1;
            }
            int worst = -1;
            int most = 0;
            for (int i = 0; i < size; i++) {
                if (excess(i) > most) {
                    worst = i;
                    most = excess(i);
                }
            }
            return worst;
        }

        /** LOADED by p: which of the pack are whole yet; the pack stays so. */
        int wholeAfter(int p) {
            int next = firstToBreak(p);
            for (int broken = 0; next >= 0 && broken < MOST_LEAVES; broken++) {
                bearers &= ~(1 << next);
                next = firstToBreak(p);
            }
            return bearers;
        }

        /** The least load by which there is TOO MUCH for a leaf; beyond MOST_LOAD: there is none. */
        int leastTooMuch() {
            int low = 1;
            int high = MOST_LOAD + 1;
            // what is TOO MUCH by a load is so by all greater ones, so the range can be halved
            for (int step = 0; low < high && step < MOST_STEPS; step++) {
                int middle = (low + high) / 2;
                if (firstToBreak(middle) >= 0) {
                    high = middle;
                } else {
                    low = middle + 1;
                }
            }
            return low;
        }

        /** The load that bends the pack by d. */
        int loadAt(int d) {
            int load = 0;
            for (int i = 0; i < size; i++) {
                if (holds(bearers, i)) {
                    load += stiff[i] * Math.max(0, d - reach[i]);
                }
            }
            return load;
        }

        /** Whether, by a load, there is TOO MUCH for none, and BEND is d at most. */
        boolean bearsWithin(int p, int d) {
            return press(p) && upper <= d * lower && firstToBreak(p) < 0;
        }
    }

    /** THE TEXT, and how it is read. */
    private static final class Text {
        private static final int NO_FAULT = -1;
        private static final int BLANK = 32;
        private static final int NOT_A_NUMBER = -1;
        private static final int LONGEST_NUMBER = 2;
        /** An item is: l, the numbers, ; and its parts are counted in this order. */
        private static final int ITEM_START = 0, ITEM_END = NUMBERS + 1;

        private final char[] letters = new char[MOST_LETTERS];
        private int size;

        boolean append(int letter) {
            if (size >= MOST_LETTERS) {
                return false;
            }
            letters[size] = (char) letter;
            size++;
            return true;
        }

        int empty() {
            int before = size;
            size = 0;
            return before;
        }

        /** Reads all of the text into a draft: FAULT, or NO_FAULT. */
        int readInto(Leaves draft) {
            draft.empty();
            int part = ITEM_START;
            int place = behindBlanks(0);
            for (int token = 0; place < size && token < MOST_LETTERS; token++) {
                int end = tokenEnd(place);
                if (!takesToken(draft, part, place, end)) {
                    return place;
                }
                part = part == ITEM_END ? ITEM_START : part + 1;
                place = behindBlanks(end);
            }
            return part == ITEM_START && draft.size > 0 ? NO_FAULT : size;
        }

        private int behindBlanks(int place) {
            int end = place;
            while (end < size && letters[end] == BLANK) {
                end++;
            }
            return end;
        }

        /** Always beyond the token's place. */
        private int tokenEnd(int place) {
            int end = place + 1;
            if (isFigure(place)) {
                while (end < size && isFigure(end)) {
                    end++;
                }
            }
            return end;
        }

        private boolean isFigure(int place) {
            return letters[place] >= '0' && letters[place] <= '9';
        }

        /** Puts a token into the draft, if it can stand as that part of an item. */
        private boolean takesToken(Leaves draft, int part, int place, int end) {
            if (part == ITEM_START) {
                return letters[place] == 'l' && draft.size < MOST_LEAVES;
            }
            if (part == ITEM_END) {
                boolean ends = letters[place] == ';';
                if (ends) {
                    draft.appendWhole();
                }
                return ends;
            }
            int what = part - 1;
            int number = numberAt(place, end);
            if (number < LEAST_NUMBER[what] || number > draft.mostOfNext(what)) {
                return false;
            }
            draft.put(what, draft.size, number);
            return true;
        }

        private int numberAt(int place, int end) {
            int figures = end - place;
            boolean zeroAhead = figures > 1 && letters[place] == '0';
            if (!isFigure(place) || zeroAhead || figures > LONGEST_NUMBER) {
                return NOT_A_NUMBER;
            }
            int number = 0;
            for (int i = place; i < end; i++) {
                number = number * 10 + (letters[i] - '0');
            }
            return number;
        }
    }

    /** What can be undone: a ring, so that the oldest is lost when one too many comes. */
    private static final class History {
        private final Leaves[] ring = new Leaves[MOST_UNDONE];
        private int next;
        private int size;

        History() {
            for (int i = 0; i < MOST_UNDONE; i++) {
                ring[i] = new Leaves();
            }
        }

        void push(Leaves leaves) {
            ring[next].become(leaves);
            next = next == MOST_UNDONE - 1 ? 0 : next + 1;
            size = Math.min(size + 1, MOST_UNDONE);
        }

        boolean popInto(Leaves leaves) {
            if (size == 0) {
                return false;
            }
            next = next == 0 ? MOST_UNDONE - 1 : next - 1;
            size--;
            leaves.become(ring[next]);
            return true;
        }

        void empty() {
            size = 0;
        }
    }

    private static final class Images {
        private final Leaves[] images = new Leaves[MOST_IMAGES];
        private int kept;

        Images() {
            for (int i = 0; i < MOST_IMAGES; i++) {
                images[i] = new Leaves();
            }
        }

        void put(int image, Leaves leaves) {
            images[image].become(leaves);
            kept |= 1 << image;
        }

        boolean getInto(int image, Leaves leaves) {
            if (!holds(kept, image)) {
                return false;
            }
            leaves.become(images[image]);
            return true;
        }

        void empty() {
            kept = 0;
        }
    }

    /** What was SEEN. */
    private static final class Sightings {
        private final int[] loads = new int[MOST_SEEN];
        private final int[] bends = new int[MOST_SEEN];
        private int size;

        boolean append(int p, int n) {
            if (size >= MOST_SEEN) {
                return false;
            }
            loads[size] = p;
            bends[size] = n;
            size++;
            return true;
        }

        int empty() {
            int before = size;
            size = 0;
            return before;
        }

        boolean agreeWith(Pack pack) {
            for (int i = 0; i < size; i++) {
                if (pack.cutBy(loads[i]) != bends[i]) {
                    return false;
                }
            }
            return true;
        }
    }
}
