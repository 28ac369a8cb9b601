import java.util.Arrays;

/**
 * A sorter and dictionary of words in a burst trie: the promises stand in the document (DOC.md), the words in capitals
 * are its terms.
 */
public final class BurstWords {
    public static final int BAD = -1, STATE = -2, FULL = -3, NONE = -9;

    private static final int MOST_LETTERS = 7;
    private static final int MOST_WORDS = 40;
    private static final int MOST_TIMES = 99;
    private static final int MOST_KNOWN = 12;
    private static final int MOST_SEEN = 8;
    private static final int ALPHABET = 26;
    private static final int LEAST_BOUND = 2;
    private static final int FIRST_BOUND = 4;
    private static final int GREATEST_BOUND = 8;
    private static final int PLACE_STEP = 32;

    private final Dictionary dictionary = new Dictionary();
    private final History history = new History();
    private final Sightings sightings = new Sightings();
    private final int[] tally = new int[MOST_LETTERS * ALPHABET];
    private long word = Spelling.EMPTY;
    private int bound = FIRST_BOUND;

    public BurstWords() {
    }

    // ---- the word, what is done

    public int type(int letter) {
        if (!Spelling.isLetter(letter)) {
            return BAD;
        }
        int length = Spelling.lengthOf(word);
        if (length >= MOST_LETTERS) {
            return FULL;
        }
        word = Spelling.extended(word, length, letter);
        return length + 1;
    }

    public int clear() {
        int length = Spelling.lengthOf(word);
        word = Spelling.EMPTY;
        return length;
    }

    public int bounds(int b) {
        if (b < LEAST_BOUND || b > GREATEST_BOUND) {
            return BAD;
        }
        if (dictionary.size() > 0) {
            return STATE;
        }
        int before = bound;
        bound = b;
        history.empty();
        return before;
    }

    public int adds() {
        if (word == Spelling.EMPTY) {
            return BAD;
        }
        int before = dictionary.oftenOf(word);
        if (before >= MOST_TIMES || (before == 0 && dictionary.size() >= MOST_WORDS)) {
            return FULL;
        }
        int depth = dictionary.depthOf(word);
        history.push(word, before, depth);
        dictionary.put(word, before + 1);
        dictionary.reshape(word, depth, dictionary.burstDepth(word, depth, bound));
        return before + 1;
    }

    public int takes() {
        int before = dictionary.oftenOf(word);
        if (before == 0) {
            return STATE;
        }
        int depth = dictionary.depthOf(word);
        history.push(word, before, depth);
        dictionary.put(word, before - 1);
        dictionary.reshape(word, depth, dictionary.mergedDepth(word, depth, bound / 2));
        return before - 1;
    }

    public int undo() {
        if (history.size() == 0) {
            return STATE;
        }
        long changed = history.lastWord();
        int depth = dictionary.depthOf(changed);
        dictionary.put(changed, history.lastOften());
        dictionary.reshape(changed, depth, history.lastDepth());
        history.drop();
        return history.size();
    }

    // ---- of the word

    public int times() {
        return dictionary.oftenOf(word);
    }

    public int rank() {
        return dictionary.oftenBelow(dictionary.placeOf(word));
    }

    public int begin() {
        return dictionary.oftenBegun(word);
    }

    public int depth() {
        return dictionary.depthOf(word);
    }

    public int container(int what) {
        if (!isHalf(what)) {
            return BAD;
        }
        int letters = dictionary.depthOf(word);
        if (letters > Spelling.lengthOf(word)) {
            return NONE;
        }
        int held = dictionary.sharing(word, letters);
        if (held == 0) {
            return NONE;
        }
        return what == 0 ? held : letters;
    }

    public int telling() {
        if (dictionary.oftenOf(word) == 0) {
            return NONE;
        }
        return dictionary.mostSharedWithOthers(word) + 1;
    }

    public int longest() {
        int length = dictionary.longestIn(word);
        return length == 0 ? NONE : length;
    }

    public int like(int d) {
        if (d < 0 || d > MOST_LETTERS) {
            return BAD;
        }
        return dictionary.alike(word, d);
    }

    public int odds(int what) {
        if (!isHalf(what)) {
            return BAD;
        }
        int all = dictionary.oftenBelow(dictionary.size());
        int upper = dictionary.oftenBegun(word);
        int divisor = commonDivisor(all, upper);
        if (divisor <= 0) {
            return what;
        }
        return (what == 0 ? upper : all) / divisor;
    }

    // ---- words by numbers

    public int kth(int k, int i) {
        if (k < 0 || !isAsked(i)) {
            return BAD;
        }
        return told(dictionary.holderOf(k), i);
    }

    public int unlike(int k, int i) {
        if (k < 0 || !isAsked(i)) {
            return BAD;
        }
        return told(k, i);
    }

    public int next(int i) {
        if (!isAsked(i)) {
            return BAD;
        }
        int place = dictionary.placeOf(word);
        return told(dictionary.oftenOf(word) == 0 ? place : place + 1, i);
    }

    public int top(int k, int i) {
        if (k < 0 || !isAsked(i)) {
            return BAD;
        }
        return told(dictionary.frequent(word, k), i);
    }

    // ---- which word

    public int sees(int i, int letter, int is) {
        if (i < 0 || i >= MOST_LETTERS || !Spelling.isLetter(letter) || !isHalf(is)) {
            return BAD;
        }
        if (sightings.size() >= MOST_SEEN) {
            return FULL;
        }
        sightings.push(i, letter, is == 1);
        return sightings.size();
    }

    public int forget() {
        int were = sightings.size();
        sightings.empty();
        return were;
    }

    public int fit(int what) {
        if (!isHalf(what)) {
            return BAD;
        }
        int fitting = 0;
        for (int k = 0; k < dictionary.size(); k++) {
            if (sightings.allow(dictionary.wordAt(k))) {
                if (what == 1) {
                    return k;
                }
                fitting++;
            }
        }
        return what == 1 ? NONE : fitting;
    }

    public int ask() {
        int fitting = tallyFitting();
        if (fitting < 2) {
            return NONE;
        }
        int least = fitting + 1;
        int answer = NONE;
        for (int cell = 0; cell < MOST_LETTERS * ALPHABET; cell++) {
            int greater = Math.max(tally[cell], fitting - tally[cell]);
            if (greater < least) {
                least = greater;
                answer = PLACE_STEP * (cell / ALPHABET) + cell % ALPHABET;
            }
        }
        return answer;
    }

    public int count(int what) {
        switch (what) {
            case 0:
                return dictionary.size();
            case 1:
                return dictionary.oftenBelow(dictionary.size());
            case 2:
                return dictionary.nodes();
            case 3:
                return dictionary.containers();
            case 4:
                return dictionary.fullest();
            case 5:
                return dictionary.deepest();
            case 6:
                return dictionary.lettersKept();
            case 7:
                return dictionary.size() < 2 ? NONE : dictionary.mostShared();
            case 8:
                return dictionary.pairsSharing(dictionary.mostShared());
            case 9:
                return bound;
            case 10:
                return Spelling.lengthOf(word);
            case 11:
                return history.size();
            default:
                return BAD;
        }
    }

    public long digest() {
        long h = 17;
        for (int k = 0; k < dictionary.size(); k++) {
            long each = dictionary.wordAt(k);
            int length = Spelling.lengthOf(each);
            for (int i = 0; i < length; i++) {
                h = 31 * h + Spelling.letterAt(each, i);
            }
            h = 31 * h + dictionary.oftenAt(k);
            h = 31 * h + dictionary.depthAt(k);
        }
        return h;
    }

    private static boolean isHalf(int what) {
        return what == 0 || what == 1;
    }

    private static boolean isAsked(int i) {
        return i >= -1 && i < MOST_LETTERS;
    }

    private static int commonDivisor(int a, int b) {
        int greater = a;
        int lesser = b;
        // Euclid on numbers up to 40 * 99 takes fewer than twenty steps.
        for (int step = 0; step < 64 && lesser > 0; step++) {
            int rest = greater % lesser;
            greater = lesser;
            lesser = rest;
        }
        return greater;
    }

    private int told(int k, int i) {
        if (k < 0 || k >= dictionary.size()) {
            return NONE;
        }
        long found = dictionary.wordAt(k);
        if (i < 0) {
            return Spelling.lengthOf(found);
        }
        int letter = Spelling.letterAt(found, i);
        return letter == 0 ? NONE : letter;
    }

    private int tallyFitting() {
        Arrays.fill(tally, 0);
        int fitting = 0;
        for (int k = 0; k < dictionary.size(); k++) {
            long each = dictionary.wordAt(k);
            if (sightings.allow(each)) {
                fitting++;
                tallyLetters(each);
            }
        }
        return fitting;
    }

    private void tallyLetters(long fitting) {
        for (int i = 0; i < MOST_LETTERS; i++) {
            int letter = Spelling.letterAt(fitting, i);
            if (Spelling.isLetter(letter)) {
                tally[i * ALPHABET + letter - 'a']++;
            }
        }
    }

    /**
     * Words packed into one number, the first letter highest and 0 where there is none, so that < on the numbers is
     * the document's order and no object is made for a word.
     */
    private static final class Spelling {
        private static final long EMPTY = 0L;
        private static final int LETTER_BITS = 8;
        private static final int LETTER_MASK = 255;

        static boolean isLetter(int letter) {
            return letter >= 'a' && letter <= 'z';
        }

        static int letterAt(long word, int i) {
            if (i < 0 || i >= MOST_LETTERS) {
                return 0;
            }
            return (int) (word >>> shiftOf(i)) & LETTER_MASK;
        }

        static int lengthOf(long word) {
            int length = 0;
            while (length < MOST_LETTERS && letterAt(word, length) != 0) {
                length++;
            }
            return length;
        }

        static long extended(long word, int length, int letter) {
            if (length < 0 || length >= MOST_LETTERS) {
                return word;
            }
            return word | ((long) letter << shiftOf(length));
        }

        static int sharedBy(long one, long other) {
            int shared = 0;
            while (shared < MOST_LETTERS && letterAt(one, shared) != 0
                    && letterAt(one, shared) == letterAt(other, shared)) {
                shared++;
            }
            return shared;
        }

        static boolean begins(long beginning, long word) {
            return sharedBy(beginning, word) == lengthOf(beginning);
        }

        static int differences(long one, long other) {
            int differing = 0;
            for (int i = 0; i < MOST_LETTERS; i++) {
                if (letterAt(one, i) != letterAt(other, i)) {
                    differing++;
                }
            }
            return differing;
        }

        private static int shiftOf(int i) {
            return LETTER_BITS * (MOST_LETTERS - 1 - i);
        }
    }

    /**
     * The unlike WORDS in order, how often each is there, and its DEPTH.
     *
     * <p>The DEPTHS stand for the NODES: every beginning of a NODE is one too, and with each at least two WORDS begin
     * (more than M, which is 1 or more), so the NODES are just the first DEPTH beginnings of each WORD, and one WORD's
     * going never loses one. A WORD's CONTAINER has as many letters as its DEPTH tells, and the WORDS of one CONTAINER
     * stand side by side.
     */
    private static final class Dictionary {
        private final long[] words = new long[MOST_WORDS];
        private final int[] often = new int[MOST_WORDS];
        private final int[] depths = new int[MOST_WORDS];
        private int size = 0;

        int size() {
            return size;
        }

        private boolean has(int k) {
            return k >= 0 && k < size && k < MOST_WORDS;
        }

        long wordAt(int k) {
            return has(k) ? words[k] : Spelling.EMPTY;
        }

        int oftenAt(int k) {
            return has(k) ? often[k] : 0;
        }

        int depthAt(int k) {
            return has(k) ? depths[k] : 0;
        }

        /** Where the word stands, or would stand. */
        int placeOf(long word) {
            int place = 0;
            while (place < size && wordAt(place) < word) {
                place++;
            }
            return place;
        }

        int oftenOf(long word) {
            int place = placeOf(word);
            return wordAt(place) == word ? oftenAt(place) : 0;
        }

        void put(long word, int howOften) {
            int place = placeOf(word);
            boolean there = has(place) && words[place] == word;
            if (!there && howOften > 0) {
                insert(place, word, howOften);
            } else if (there && howOften > 0) {
                often[place] = howOften;
            } else if (there) {
                remove(place);
            }
        }

        private void insert(int place, long word, int howOften) {
            if (place < 0 || place > size || size >= MOST_WORDS) {
                return;
            }
            int depth = depthOf(word);
            int behind = size - place;
            System.arraycopy(words, place, words, place + 1, behind);
            System.arraycopy(often, place, often, place + 1, behind);
            System.arraycopy(depths, place, depths, place + 1, behind);
            words[place] = word;
            often[place] = howOften;
            depths[place] = depth;
            size++;
        }

        private void remove(int place) {
            if (!has(place)) {
                return;
            }
            int behind = size - place - 1;
            System.arraycopy(words, place + 1, words, place, behind);
            System.arraycopy(often, place + 1, often, place, behind);
            System.arraycopy(depths, place + 1, depths, place, behind);
            size--;
        }

        /** How many beginnings of the word, there or not, are NODES. */
        int depthOf(long word) {
            int deepest = 0;
            for (int k = 0; k < size; k++) {
                int common = Spelling.sharedBy(wordAt(k), word) + 1;
                deepest = Math.max(deepest, Math.min(common, depthAt(k)));
            }
            return deepest;
        }

        /** How many unlike WORDS have the first so many letters of the word. */
        int sharing(long word, int letters) {
            int sharing = 0;
            for (int k = 0; k < size; k++) {
                if (Spelling.sharedBy(wordAt(k), word) >= letters) {
                    sharing++;
                }
            }
            return sharing;
        }

        int burstDepth(long word, int depth, int bound) {
            int length = Spelling.lengthOf(word);
            int deeper = depth;
            while (deeper <= length && sharing(word, deeper) > bound) {
                deeper++;
            }
            return deeper;
        }

        int mergedDepth(long word, int depth, int few) {
            int higher = depth;
            while (higher > 0 && sharing(word, higher - 1) <= few) {
                higher--;
            }
            return higher;
        }

        /** Makes the word's DEPTH another one: all NODES that come or go are beginnings of this word. */
        void reshape(long word, int from, int to) {
            int kept = Math.min(from, to);
            for (int k = 0; k < size && k < MOST_WORDS; k++) {
                int shared = Spelling.sharedBy(words[k], word);
                if (shared >= kept) {
                    depths[k] = Math.min(to, shared + 1);
                }
            }
        }

        /** How many WORDS stand ahead of the k-th unlike one, as often as they are there. */
        int oftenBelow(int k) {
            int sum = 0;
            for (int j = 0; j < k && j < size; j++) {
                sum += oftenAt(j);
            }
            return sum;
        }

        int oftenBegun(long beginning) {
            int sum = 0;
            for (int k = 0; k < size; k++) {
                if (Spelling.begins(beginning, wordAt(k))) {
                    sum += oftenAt(k);
                }
            }
            return sum;
        }

        /** -1 (it has something in common with no other) stands for a WORD that is alone. */
        int mostSharedWithOthers(long word) {
            int most = -1;
            for (int k = 0; k < size; k++) {
                if (wordAt(k) != word) {
                    most = Math.max(most, Spelling.sharedBy(wordAt(k), word));
                }
            }
            return most;
        }

        int longestIn(long word) {
            int length = 0;
            for (int k = 0; k < size; k++) {
                if (Spelling.begins(wordAt(k), word)) {
                    length = Math.max(length, Spelling.lengthOf(wordAt(k)));
                }
            }
            return length;
        }

        int alike(long word, int differences) {
            int length = Spelling.lengthOf(word);
            int alike = 0;
            for (int k = 0; k < size; k++) {
                if (Spelling.lengthOf(wordAt(k)) == length
                        && Spelling.differences(wordAt(k), word) <= differences) {
                    alike++;
                }
            }
            return alike;
        }

        /** Which unlike WORD the k-th of all is, each as often as it is there; -1: none. */
        int holderOf(int k) {
            int left = k;
            for (int j = 0; j < size; j++) {
                if (left < oftenAt(j)) {
                    return j;
                }
                left -= oftenAt(j);
            }
            return -1;
        }

        /** Which unlike WORD is the k-th most frequent one of those with this beginning; -1: none. */
        int frequent(long beginning, int k) {
            for (int j = 0; j < size; j++) {
                if (Spelling.begins(beginning, wordAt(j)) && moreFrequent(beginning, j) == k) {
                    return j;
                }
            }
            return -1;
        }

        private int moreFrequent(long beginning, int place) {
            int ahead = 0;
            for (int j = 0; j < size; j++) {
                boolean before = oftenAt(j) > oftenAt(place) || (oftenAt(j) == oftenAt(place) && j < place);
                if (before && Spelling.begins(beginning, wordAt(j))) {
                    ahead++;
                }
            }
            return ahead;
        }

        /** What the k-th unlike WORD shares with the one ahead of it; -1 for the first. */
        private int sharedAhead(int k) {
            return k <= 0 ? -1 : Spelling.sharedBy(wordAt(k - 1), wordAt(k));
        }

        int nodes() {
            int nodes = 0;
            for (int k = 0; k < size; k++) {
                // Beginnings that the word ahead has too were counted there.
                nodes += Math.max(0, depthAt(k) - (sharedAhead(k) + 1));
            }
            return nodes;
        }

        private boolean isContained(int k) {
            return depthAt(k) <= Spelling.lengthOf(wordAt(k));
        }

        private boolean opensContainer(int k) {
            return isContained(k) && sharedAhead(k) < depthAt(k);
        }

        int containers() {
            int containers = 0;
            for (int k = 0; k < size; k++) {
                if (opensContainer(k)) {
                    containers++;
                }
            }
            return containers;
        }

        int fullest() {
            int most = 0;
            int held = 0;
            for (int k = 0; k < size; k++) {
                if (isContained(k)) {
                    held = opensContainer(k) ? 1 : held + 1;
                    most = Math.max(most, held);
                }
            }
            return most;
        }

        int deepest() {
            int deepest = 0;
            for (int k = 0; k < size; k++) {
                deepest = Math.max(deepest, depthAt(k));
            }
            return deepest;
        }

        int lettersKept() {
            int letters = 0;
            for (int k = 0; k < size; k++) {
                if (isContained(k)) {
                    letters += Spelling.lengthOf(wordAt(k)) - depthAt(k);
                }
            }
            return letters;
        }

        int mostShared() {
            int most = 0;
            for (int k = 1; k < size; k++) {
                most = Math.max(most, sharedAhead(k));
            }
            return most;
        }

        int pairsSharing(int letters) {
            int pairs = 0;
            for (int k = 1; k < size; k++) {
                if (sharedAhead(k) == letters) {
                    pairs++;
                }
            }
            return pairs;
        }
    }

    /** What can be UNDONE: a change touches one word and beginnings of it, so what these were before is enough. */
    private static final class History {
        private final long[] words = new long[MOST_KNOWN];
        private final int[] often = new int[MOST_KNOWN];
        private final int[] depths = new int[MOST_KNOWN];
        private int size = 0;

        int size() {
            return size;
        }

        void empty() {
            size = 0;
        }

        void push(long word, int howOften, int depth) {
            if (size >= MOST_KNOWN) {
                loseOldest();
            }
            words[size] = word;
            often[size] = howOften;
            depths[size] = depth;
            size++;
        }

        private void loseOldest() {
            size = MOST_KNOWN - 1;
            System.arraycopy(words, 1, words, 0, size);
            System.arraycopy(often, 1, often, 0, size);
            System.arraycopy(depths, 1, depths, 0, size);
        }

        private boolean hasLast() {
            return size > 0 && size <= MOST_KNOWN;
        }

        long lastWord() {
            return hasLast() ? words[size - 1] : Spelling.EMPTY;
        }

        int lastOften() {
            return hasLast() ? often[size - 1] : 0;
        }

        int lastDepth() {
            return hasLast() ? depths[size - 1] : 0;
        }

        void drop() {
            if (hasLast()) {
                size--;
            }
        }
    }

    /** What was SEEN of the unknown WORD. */
    private static final class Sightings {
        private final int[] places = new int[MOST_SEEN];
        private final int[] letters = new int[MOST_SEEN];
        private final boolean[] so = new boolean[MOST_SEEN];
        private int size = 0;

        int size() {
            return size;
        }

        void empty() {
            size = 0;
        }

        void push(int place, int letter, boolean is) {
            if (size >= MOST_SEEN) {
                return;
            }
            places[size] = place;
            letters[size] = letter;
            so[size] = is;
            size++;
        }

        boolean allow(long word) {
            for (int j = 0; j < size && j < MOST_SEEN; j++) {
                boolean is = Spelling.letterAt(word, places[j]) == letters[j];
                if (is != so[j]) {
                    return false;
                }
            }
            return true;
        }
    }
}
