/** Each promise of the document by answers that were worked out by hand: the ordinary, the edges, the refused. */
public final class PromisesTest {
    private static final int BAD = -1, STATE = -2, FULL = -3, NONE = -9;
    private static final Checks CHECKS = new Checks();

    public static void main(String[] args) {
        newObject();
        typeAndClear();
        bounds();
        adds();
        bursts();
        takes();
        merges();
        undo();
        undoOfShape();
        timesRankBegin();
        depthAndContainer();
        telling();
        longest();
        like();
        odds();
        kthAndUnlike();
        next();
        top();
        seesAndForget();
        fit();
        ask();
        count();
        shared();
        digest();
        refusedInOrder();
        CHECKS.finish();
    }

    private static void due(String call, long got, long want) {
        CHECKS.due(call, got, want);
    }

    /** Promise 1. */
    private static void newObject() {
        BurstWords x = new BurstWords();
        int[] counts = {0, 0, 0, 0, 0, 0, 0, NONE, 0, 4, 0, 0};
        for (int what = 0; what < counts.length; what++) {
            due("1: count(" + what + ") of a new object", x.count(what), counts[what]);
        }
        due("1: digest() of a new object", x.digest(), 17);
        due("1: undo() of a new object", x.undo(), STATE);
        due("1: takes() of a new object", x.takes(), STATE);
        due("1: forget() of a new object", x.forget(), 0);
        due("1: unlike(0, -1) of a new object", x.unlike(0, -1), NONE);
        Words.add(x, "a");
        due("1: objects share nothing", new BurstWords().count(0), 0);
    }

    /** Promises 2 and 3. */
    private static void typeAndClear() {
        BurstWords x = new BurstWords();
        int[] bad = {'a' - 1, 'z' + 1, 'A', 0, -1, 'a' + 256, Integer.MIN_VALUE, Integer.MAX_VALUE};
        for (int letter : bad) {
            due("2: type(" + letter + ")", x.type(letter), BAD);
        }
        due("2: letters after what was refused", x.count(10), 0);
        due("2: type a", x.type('a'), 1);
        due("2: type z", x.type('z'), 2);
        for (int n = 3; n <= 7; n++) {
            due("2: type m", x.type('m'), n);
        }
        due("2: an eighth letter", x.type('m'), FULL);
        due("2: a bad eighth letter", x.type('Z'), BAD);
        due("2: letters after what was refused", x.count(10), 7);
        x.adds();
        due("2: the word as it was told, first letter", x.unlike(0, 0), 'a');
        due("2: the word as it was told, second letter", x.unlike(0, 1), 'z');
        due("2: the word as it was told, last letter", x.unlike(0, 6), 'm');
        due("2: it stays behind adds()", x.count(10), 7);
        x.takes();
        due("2: it stays behind takes()", x.count(10), 7);
        x.undo();
        due("2: it stays behind undo()", x.count(10), 7);
        due("3: clear()", x.clear(), 7);
        due("3: clear() of nothing", x.clear(), 0);
        due("3: the words stay", x.count(0), 1);
    }

    /** Promise 4. */
    private static void bounds() {
        BurstWords x = new BurstWords();
        int[] bad = {1, 9, 0, -4, Integer.MAX_VALUE, Integer.MIN_VALUE};
        for (int b : bad) {
            due("4: bounds(" + b + ")", x.bounds(b), BAD);
        }
        due("4: bounds(2)", x.bounds(2), 4);
        due("4: bounds(8)", x.bounds(8), 2);
        due("4: the same again", x.bounds(8), 8);
        due("4: B", x.count(9), 8);
        Words.add(x, "a");
        due("4: bounds(3) with words", x.bounds(3), STATE);
        due("4: bounds(9) with words", x.bounds(9), BAD);
        x.takes();
        due("4: what can be undone ahead of it", x.count(11), 2);
        due("4: bounds(9) takes nothing away", x.bounds(9) + x.count(11), 1);
        due("4: bounds(3) when all words are gone", x.bounds(3), 8);
        due("4: nothing can be undone behind it", x.undo(), STATE);
        Words.add(x, "a");
        due("4: what comes behind it can", x.undo(), 0);
    }

    /** Promise 5: counts and limits. */
    private static void adds() {
        BurstWords x = new BurstWords();
        due("5: adds() of the empty word", x.adds(), BAD);
        for (int n = 0; n < 40; n++) {
            due("5: word " + n, Words.add(x, word(n)), 1);
        }
        due("5: a forty-first", Words.add(x, "zz"), FULL);
        x.clear();
        due("5: the empty word while it is full", x.adds(), BAD);
        for (int n = 2; n <= 99; n++) {
            due("5: one that is there, while it is full", n == 2 ? Words.add(x, word(17)) : x.adds(), n);
        }
        due("5: a hundredth", x.adds(), FULL);
        due("5: times() after what was refused", x.times(), 99);
        due("5: count(0)", x.count(0), 40);
        due("5: count(1)", x.count(1), 138);
        due("5: taken, there is room", x.takes(), 98);
        due("5: taken, there is room", x.adds(), 99);
        Words.take(x, word(3));
        due("5: room for another", Words.add(x, "zz"), 1);
        BurstWords few = Words.of(4, "q");
        Words.say(few, "q");
        for (int n = 2; n <= 99; n++) {
            few.adds();
        }
        due("5: 99 of the only word", few.adds(), FULL);
        due("5: another word is not full", Words.add(few, "qq"), 1);
    }

    private static String word(int n) {
        return "" + (char) ('a' + n % 5) + (char) ('a' + n / 5);
    }

    /** Promise 5: what BURSTS. */
    private static void bursts() {
        BurstWords x = Words.of(2, "abcdefg", "abcdefh");
        due("5: full, but not too full", x.count(2), 0);
        due("5: one of what is there", Words.add(x, "abcdefg"), 2);
        due("5: as often as it is there, it is one", x.count(2), 0);
        Words.add(x, "abcdefi");
        due("5: it bursts and bursts, to the last letter but one", x.count(2), 7);
        due("5: containers then", x.count(3), 3);
        due("5: letters then", x.count(6), 0);
        x = Words.of(2, "ab", "abc", "abd");
        due("5: the word becomes a node itself", x.count(2), 3);
        due("5: and is in no container", x.count(3), 2);
        Words.say(x, "ab");
        due("5: depth() of it", x.depth(), 3);
        due("5: container(0) of it", x.container(0), NONE);
        x = Words.of(2, "abc", "abd", "ab");
        due("5: the word that was added becomes a node itself", x.count(2), 3);
        due("5: and ends there", x.count(3), 2);
        x = Words.of(3, "a", "b", "c", "d");
        due("5: one burst is enough where they part", x.count(2), 1);
        due("5: containers where they part", x.count(3), 4);
    }

    /** Promise 6: counts. */
    private static void takes() {
        BurstWords x = Words.of(4, "ab", "ab");
        x.clear();
        due("6: takes() of the empty word", x.takes(), STATE);
        due("6: takes() of a beginning", Words.take(x, "a"), STATE);
        due("6: takes() of a longer one", Words.take(x, "abc"), STATE);
        due("6: what was refused is not known", x.count(11), 2);
        due("6: one", Words.take(x, "ab"), 1);
        due("6: it is there yet", x.times(), 1);
        due("6: the last one", x.takes(), 0);
        due("6: it is not there", x.times(), 0);
        due("6: no words", x.count(0), 0);
        due("6: none more", x.takes(), STATE);
    }

    /** Promise 6: what comes together again. */
    private static void merges() {
        // B = 4, M = 2: "a" and none are nodes.
        BurstWords x = Words.of(4, "aa", "ab", "ac", "ad", "ae");
        due("6: nodes at first", x.count(2), 2);
        Words.take(x, "ab");
        Words.take(x, "ad");
        due("6: three are more than M", x.count(2), 2);
        Words.add(x, "aa");
        Words.add(x, "aa");
        Words.take(x, "aa");
        due("6: one of several goes", x.count(2), 2);
        Words.take(x, "ac");
        due("6: two unlike ones are no more than M, from the longest to the shortest", x.count(2), 0);
        due("6: one container", x.count(3), 1);
        due("6: it holds", x.count(4), 2);
        due("6: letters kept", x.count(6), 4);
        // None stays a node by the others; "a" does not.
        x = Words.of(4, "aa", "ab", "ac", "ad", "ae", "b", "c");
        Words.take(x, "aa");
        Words.take(x, "ab");
        Words.take(x, "ac");
        due("6: up to the first that stays", x.count(2), 1);
        due("6: containers a, b, c", x.count(3), 3);
        // A word that begins no deeper node leaves that alone.
        x = Words.of(2, "aa", "ab", "ac", "b");
        Words.take(x, "b");
        due("6: a node that the word does not begin with", x.count(2), 2);
        // A word that is a node itself.
        x = Words.of(4, "a", "aa", "ab", "ac", "ad");
        Words.take(x, "a");
        due("6: the node stays without its word", x.count(2), 2);
        Words.take(x, "aa");
        Words.take(x, "ab");
        due("6: it goes at two", x.count(2), 0);
        // M is cut: of 3 it is 1, of 5 it is 2.
        x = Words.of(3, "aa", "ab", "ac", "ad");
        Words.take(x, "aa");
        Words.take(x, "ab");
        due("6: B = 3, two are more than 1", x.count(2), 2);
        Words.take(x, "ac");
        due("6: B = 3, one is not", x.count(2), 0);
        x = Words.of(5, "a", "b", "c", "d", "e", "f");
        Words.take(x, "a");
        Words.take(x, "b");
        Words.take(x, "c");
        due("6: B = 5, three are more than 2", x.count(2), 1);
        Words.take(x, "d");
        due("6: B = 5, two are not", x.count(2), 0);
    }

    /** Promise 7: how many. */
    private static void undo() {
        BurstWords x = new BurstWords();
        Words.say(x, "a");
        for (int n = 1; n <= 20; n++) {
            x.adds();
            due("7: known after " + n, x.count(11), Math.min(n, 12));
        }
        for (int n = 11; n >= 6; n--) {
            due("7: undo()", x.undo(), n);
        }
        due("7: times() then", x.times(), 14);
        x.takes();
        due("7: known then", x.count(11), 7);
        due("7: undo() of takes()", x.undo(), 6);
        due("7: times() then", x.times(), 14);
        for (int n = 5; n >= 0; n--) {
            due("7: undo()", x.undo(), n);
        }
        due("7: older ones are lost", x.undo(), STATE);
        due("7: times() then", x.times(), 8);
        x.clear();
        x.adds();
        x.takes();
        due("7: what was refused is not known", x.undo(), STATE);
        undoOfMany();
        BurstWords y = Words.of(4, "b");
        Words.say(y, "c");
        due("7: undo() of another word than THE WORD", y.undo(), 0);
        due("7: no words", y.count(0), 0);
        due("7: THE WORD stays", y.count(10), 1);
        y.sees(0, 'a', 1);
        y.adds();
        y.undo();
        due("7: what was seen stays", y.forget(), 1);
    }

    /** Promise 7: the words and shapes of 14 changes, of which the first two are lost. */
    private static void undoOfMany() {
        BurstWords x = new BurstWords();
        x.bounds(2);
        long[] digests = new long[15];
        for (int n = 0; n < 14; n++) {
            digests[n] = x.digest();
            Words.add(x, word(n));
        }
        for (int n = 13; n >= 2; n--) {
            due("7: undo() of many", x.undo(), n - 2);
            due("7: digest() ahead of word " + n, x.digest(), digests[n]);
        }
        due("7: the first two are lost", x.undo(), STATE);
    }

    /** Promise 7: NODES are what they were, though adding and taking alone would leave others. */
    private static void undoOfShape() {
        BurstWords x = Words.of(4, "aa", "ab", "ac", "ad");
        long before = x.digest();
        Words.add(x, "ae");
        due("7: burst", x.count(2), 2);
        x.undo();
        due("7: a burst undone", x.count(2), 0);
        due("7: digest() as before", x.digest(), before);
        due("7: containers", x.count(3), 1);
        Words.add(x, "ae");
        Words.take(x, "ae");
        due("7: taken, the nodes stay", x.count(2), 2);
        Words.take(x, "ad");
        before = x.digest();
        Words.take(x, "ac");
        due("7: together", x.count(2), 0);
        x.undo();
        due("7: coming together undone", x.count(2), 2);
        due("7: digest() as before", x.digest(), before);
        BurstWords y = Words.of(2, "abc", "abd", "abe");
        due("7: nodes", y.count(2), 3);
        Words.take(y, "abc");
        Words.take(y, "abd");
        due("7: none", y.count(2), 0);
        due("7: one undone", y.undo(), 4);
        due("7: nodes of two words", y.count(2), 3);
        due("7: two undone", y.undo(), 3);
        due("7: three undone", y.undo(), 2);
        due("7: nodes ahead of the burst", y.count(2), 0);
        due("7: words ahead of the burst", y.count(0), 2);
    }

    /** Promises 8, 9, 10. */
    private static void timesRankBegin() {
        BurstWords x = Words.of(2, "b", "ab", "abc", "ab", "ac", "b", "b");
        due("8: times() of the empty word", x.times(), 0);
        due("9: rank() of the empty word", x.rank(), 0);
        due("10: begin() of the empty word", x.begin(), 7);
        String[] words = {"a", "ab", "abb", "abc", "abcd", "b", "ba", "zzzzzzz"};
        int[] times = {0, 2, 0, 1, 0, 3, 0, 0};
        int[] ranks = {0, 0, 2, 2, 3, 4, 7, 7};
        int[] begun = {4, 3, 0, 1, 0, 3, 0, 0};
        for (int k = 0; k < words.length; k++) {
            Words.say(x, words[k]);
            due("8: times() of " + words[k], x.times(), times[k]);
            due("9: rank() of " + words[k], x.rank(), ranks[k]);
            due("10: begin() of " + words[k], x.begin(), begun[k]);
        }
    }

    /** Promises 11 and 12. */
    private static void depthAndContainer() {
        // NODES: none, a, ab. ab ends at its node.
        BurstWords x = Words.of(2, "ab", "abc", "abd", "b", "abc");
        String[] words = {"", "a", "ab", "abc", "abcd", "abz", "ac", "b", "ba", "z"};
        int[] depths = {1, 2, 3, 3, 3, 3, 2, 1, 1, 1};
        int[] held = {NONE, NONE, NONE, 1, 1, NONE, NONE, 1, 1, NONE};
        int[] letters = {NONE, NONE, NONE, 3, 3, NONE, NONE, 1, 1, NONE};
        for (int k = 0; k < words.length; k++) {
            Words.say(x, words[k]);
            due("11: depth() of " + words[k], x.depth(), depths[k]);
            due("12: container(0) of " + words[k], x.container(0), held[k]);
            due("12: container(1) of " + words[k], x.container(1), letters[k]);
        }
        due("12: container(2)", x.container(2), BAD);
        due("12: container(-1)", x.container(-1), BAD);
        x.clear();
        due("12: container(2) of a node", x.container(2), BAD);
        BurstWords y = Words.of(4, "abc", "abc", "b");
        due("12: without nodes the container of none, unlike ones", y.container(0), 2);
        due("12: it has no letters", y.container(1), 0);
        Words.say(y, "zzz");
        due("12: it is that of a word that is not there", y.container(0), 2);
        due("12: no words", new BurstWords().container(1), NONE);
    }

    /** Promise 13. */
    private static void telling() {
        BurstWords x = Words.of(4, "abc", "abc");
        Words.say(x, "abc");
        due("13: alone, though twice there", x.telling(), 0);
        Words.add(x, "a");
        Words.say(x, "abc");
        due("13: the other begins it", x.telling(), 2);
        Words.take(x, "a");
        Words.add(x, "abd");
        Words.add(x, "ab");
        Words.add(x, "b");
        String[] words = {"abc", "abd", "ab", "b", "a", "abcd", ""};
        int[] tellings = {3, 3, 3, 1, NONE, NONE, NONE};
        for (int k = 0; k < words.length; k++) {
            Words.say(x, words[k]);
            due("13: telling() of " + words[k], x.telling(), tellings[k]);
        }
    }

    /** Promise 14. */
    private static void longest() {
        BurstWords x = Words.of(2, "ab", "abcd", "b", "bcdefgh");
        String[] words = {"", "a", "ab", "abc", "abcd", "abcde", "b", "bcdefgh", "c"};
        int[] lengths = {NONE, NONE, 2, 2, 4, 4, 1, 7, NONE};
        for (int k = 0; k < words.length; k++) {
            Words.say(x, words[k]);
            due("14: longest() of " + words[k], x.longest(), lengths[k]);
        }
    }

    /** Promise 15. */
    private static void like() {
        BurstWords x = Words.of(3, "abcdefg", "abcdefh", "zbcdefh", "zyxwvut", "abc", "abd", "abc");
        Words.say(x, "abcdefg");
        int[] alike = {1, 2, 3, 3, 3, 3, 3, 4};
        for (int d = 0; d <= 7; d++) {
            due("15: like(" + d + ")", x.like(d), alike[d]);
        }
        due("15: like(8)", x.like(8), BAD);
        due("15: like(-1)", x.like(-1), BAD);
        Words.say(x, "bbc");
        due("15: like(0) of a word that is not there", x.like(0), 0);
        due("15: like(1), unlike ones", x.like(1), 1);
        due("15: like(2)", x.like(2), 2);
        x.clear();
        due("15: like(7) of the empty word", x.like(7), 0);
    }

    /** Promise 16. */
    private static void odds() {
        BurstWords x = new BurstWords();
        due("16: no words, upper", x.odds(0), 0);
        due("16: no words, lower", x.odds(1), 1);
        due("16: odds(2) of no words", x.odds(2), BAD);
        x = Words.of(4, "ab", "ab", "ac", "ac", "b", "c");
        due("16: the empty word, upper", x.odds(0), 1);
        due("16: the empty word, lower", x.odds(1), 1);
        Words.say(x, "a");
        due("16: 4 of 6, upper", x.odds(0), 2);
        due("16: 4 of 6, lower", x.odds(1), 3);
        Words.say(x, "z");
        due("16: 0 of 6, upper", x.odds(0), 0);
        due("16: 0 of 6, lower", x.odds(1), 1);
        Words.say(x, "b");
        due("16: 1 of 6, upper", x.odds(0), 1);
        due("16: 1 of 6, lower", x.odds(1), 6);
        due("16: odds(-1)", x.odds(-1), BAD);
    }

    private static void dueWord(String call, int[] got, String want) {
        due(call + ", letters", got[0], want == null ? NONE : want.length());
        for (int i = 0; i < 7; i++) {
            int letter = want == null || i >= want.length() ? NONE : want.charAt(i);
            due(call + ", letter " + i, got[i + 1], letter);
        }
    }

    /** Promises 17 and 18. */
    private static void kthAndUnlike() {
        BurstWords x = Words.of(2, "b", "ab", "abcdefg", "b", "ab", "ab");
        String[] all = {"ab", "ab", "ab", "abcdefg", "b", "b", null};
        String[] unlike = {"ab", "abcdefg", "b", null};
        int[] got = new int[8];
        for (int k = 0; k < all.length; k++) {
            for (int i = -1; i <= 6; i++) {
                got[i + 1] = x.kth(k, i);
            }
            dueWord("17: kth of " + k, got, all[k]);
        }
        for (int k = 0; k < unlike.length; k++) {
            for (int i = -1; i <= 6; i++) {
                got[i + 1] = x.unlike(k, i);
            }
            dueWord("18: unlike of " + k, got, unlike[k]);
        }
        due("17: kth(-1, 0)", x.kth(-1, 0), BAD);
        due("17: kth(99, 7)", x.kth(99, 7), BAD);
        due("17: kth(0, -2)", x.kth(0, -2), BAD);
        due("17: kth(the most, 0)", x.kth(Integer.MAX_VALUE, 0), NONE);
        due("18: unlike(-1, 0)", x.unlike(-1, 0), BAD);
        due("18: unlike(99, 7)", x.unlike(99, 7), BAD);
        due("18: unlike(0, -2)", x.unlike(0, -2), BAD);
        due("18: unlike(the most, 0)", x.unlike(Integer.MAX_VALUE, 0), NONE);
    }

    /** Promise 19. */
    private static void next() {
        BurstWords x = Words.of(2, "ab", "abc", "b", "ab");
        String[] words = {"", "a", "ab", "aba", "abc", "abcd", "b", "zzzzzzz"};
        String[] nexts = {"ab", "ab", "abc", "abc", "b", "b", null, null};
        int[] got = new int[8];
        for (int k = 0; k < words.length; k++) {
            Words.say(x, words[k]);
            for (int i = -1; i <= 6; i++) {
                got[i + 1] = x.next(i);
            }
            dueWord("19: next of " + words[k], got, nexts[k]);
        }
        due("19: next(-2)", x.next(-2), BAD);
        due("19: next(7) of none", x.next(7), BAD);
    }

    /** Promise 20. */
    private static void top() {
        BurstWords x = Words.of(2, "ab", "abc", "abc", "b", "b", "b", "ad", "ad", "a");
        String[] ofAll = {"b", "abc", "ad", "a", "ab", null};
        String[] ofAb = {"abc", "ab", null};
        int[] got = new int[8];
        for (int k = 0; k < ofAll.length; k++) {
            for (int i = -1; i <= 6; i++) {
                got[i + 1] = x.top(k, i);
            }
            dueWord("20: top of all, " + k, got, ofAll[k]);
        }
        Words.say(x, "ab");
        for (int k = 0; k < ofAb.length; k++) {
            for (int i = -1; i <= 6; i++) {
                got[i + 1] = x.top(k, i);
            }
            dueWord("20: top of ab, " + k, got, ofAb[k]);
        }
        due("20: top(-1, 0)", x.top(-1, 0), BAD);
        due("20: top(0, -2)", x.top(0, -2), BAD);
        due("20: top(99, 7)", x.top(99, 7), BAD);
        due("20: top(the most, 0)", x.top(Integer.MAX_VALUE, 0), NONE);
    }

    /** Promises 21 and 22. */
    private static void seesAndForget() {
        BurstWords x = new BurstWords();
        due("21: sees(-1, a, 1)", x.sees(-1, 'a', 1), BAD);
        due("21: sees(7, a, 1)", x.sees(7, 'a', 1), BAD);
        due("21: sees(0, a - 1, 1)", x.sees(0, 'a' - 1, 1), BAD);
        due("21: sees(0, z + 1, 1)", x.sees(0, 'z' + 1, 1), BAD);
        due("21: sees(0, a, 2)", x.sees(0, 'a', 2), BAD);
        due("21: sees(0, a, -1)", x.sees(0, 'a', -1), BAD);
        due("22: nothing of that was seen", x.forget(), 0);
        for (int n = 1; n <= 8; n++) {
            due("21: sees " + n + ", the same again", x.sees(6, 'z', n % 2), n);
        }
        due("21: a ninth", x.sees(0, 'a', 1), FULL);
        due("21: a bad ninth", x.sees(7, 'a', 1), BAD);
        due("22: forget()", x.forget(), 8);
        due("22: forget() of nothing", x.forget(), 0);
        due("21: sees again", x.sees(0, 'a', 0), 1);
    }

    /** Promise 23. */
    private static void fit() {
        BurstWords x = Words.of(2, "ab", "abc", "abd", "ab", "b");
        due("23: all fit, unlike ones", x.fit(0), 4);
        due("23: the first of all", x.fit(1), 0);
        x.sees(2, 'c', 0);
        due("23: letter 2 is not c, or there is none", x.fit(0), 3);
        x.sees(2, 'd', 0);
        x.sees(0, 'a', 0);
        due("23: one fits", x.fit(0), 1);
        due("23: by its number among unlike ones", x.fit(1), 3);
        x.sees(1, 'b', 1);
        due("23: none fits", x.fit(0), 0);
        due("23: the first of none", x.fit(1), NONE);
        x.forget();
        x.sees(1, 'b', 1);
        due("23: letter 1 is b", x.fit(0), 3);
        x.sees(2, 'd', 1);
        due("23: letter 2 is d", x.fit(1), 2);
        due("23: fit(2)", x.fit(2), BAD);
        due("23: fit(-1)", x.fit(-1), BAD);
        x.takes();
        Words.take(x, "abd");
        due("23: it goes by the words of now", x.fit(0), 0);
    }

    /** Promise 24. */
    private static void ask() {
        BurstWords x = new BurstWords();
        due("24: no words", x.ask(), NONE);
        Words.add(x, "b");
        due("24: one", x.ask(), NONE);
        Words.add(x, "b");
        due("24: one, twice", x.ask(), NONE);
        Words.add(x, "bz");
        due("24: only that there is a letter parts them", x.ask(), 32 + 25);
        Words.add(x, "a");
        due("24: of several the first", x.ask(), 0);
        // ca, cb, da, db, each place parts them 2 to 2: c at place 0.
        x = Words.of(4, "ca", "cb", "da", "db");
        due("24: by i, then c", x.ask(), 2);
        x.sees(0, 'c', 1);
        due("24: of what fits", x.ask(), 32);
        x.sees(1, 'a', 0);
        due("24: one fits", x.ask(), NONE);
        x.sees(1, 'b', 0);
        due("24: none fits", x.ask(), NONE);
        // Place 0 parts 1 to 3, place 6 parts 2 to 2.
        x = Words.of(4, "axxxxxm", "bxxxxxm", "bxxxxxn", "bxxxxxo");
        due("24: the greater part is smallest", x.ask(), 32 * 6 + 12);
    }

    /** Promise 25. */
    private static void count() {
        // NODES none, t, to; CONTAINERS a (an, and), te (ten, tea), toe (toe), top (top, topic); to ends at its node.
        BurstWords x = Words.of(3, "to", "toe", "top", "topic", "ten", "tea", "an", "and", "to");
        Words.say(x, "tot");
        int[] counts = {8, 9, 3, 4, 2, 3, 7, 3, 1, 3, 3, 9};
        for (int what = 0; what < counts.length; what++) {
            due("25: count(" + what + ")", x.count(what), counts[what]);
        }
        due("25: count(-1)", x.count(-1), BAD);
        due("25: count(12)", x.count(12), BAD);
        BurstWords y = Words.of(4, "abc");
        due("25: count(7) of one word", y.count(7), NONE);
        due("25: count(8) of one word", y.count(8), 0);
        due("25: letters of one word", y.count(6), 3);
    }

    /** Promise 25: SHARED. */
    private static void shared() {
        BurstWords x = Words.of(4, "abc", "abd");
        due("25: two words share", x.count(7), 2);
        due("25: by the one pair", x.count(8), 1);
        Words.add(x, "b");
        due("25: the first pair shares the most", x.count(7), 2);
        x = Words.of(4, "a", "b", "c");
        due("25: nothing is shared", x.count(7), 0);
        due("25: by all pairs", x.count(8), 2);
        Words.add(x, "a");
        due("25: one twice there is no pair", x.count(7), 0);
        Words.add(x, "ab");
        Words.add(x, "cd");
        due("25: one letter", x.count(7), 1);
        due("25: by two pairs", x.count(8), 2);
        Words.add(x, "abc");
        due("25: two letters", x.count(7), 2);
        due("25: by one pair", x.count(8), 1);
    }

    /** Promise 26. */
    private static void digest() {
        BurstWords x = Words.of(4, "b", "b");
        // 17 -> 31 * 17 + 98 = 625 -> 31 * 625 + 2 = 19377 -> 31 * 19377 + 0
        due("26: one word twice", x.digest(), 600687);
        Words.add(x, "ab");
        long h = 17;
        for (int v : new int[] {97, 98, 1, 0, 98, 2, 0}) {
            h = 31 * h + v;
        }
        due("26: in order", x.digest(), h);
        Words.say(x, "zzz");
        x.sees(0, 'a', 1);
        due("26: THE WORD and what was seen do not count", x.digest(), h);
        x = Words.of(2, "b", "ab", "ac");
        h = 17;
        for (int v : new int[] {97, 98, 1, 1, 97, 99, 1, 1, 98, 1, 1}) {
            h = 31 * h + v;
        }
        due("26: depths", x.digest(), h);
        x = Words.of(8, "zzzzzzz", "yyyyyyy", "xxxxxxx");
        h = 17;
        for (char c = 'x'; c <= 'z'; c++) {
            for (int i = 0; i < 7; i++) {
                h = 31 * h + c;
            }
            h = 31 * (31 * h + 1);
        }
        due("26: more than a long holds wraps", x.digest(), h);
    }

    /** What is refused changes nothing, and the first reason is told. */
    private static void refusedInOrder() {
        BurstWords x = Words.of(2, "ab", "ac", "ad");
        x.sees(0, 'a', 1);
        Words.say(x, "zz");
        long before = x.digest();
        x.type(0);
        x.bounds(1);
        x.bounds(5);
        x.takes();
        x.container(5);
        x.like(9);
        x.odds(5);
        x.sees(9, 'a', 1);
        x.fit(5);
        x.count(99);
        due("refused: digest", x.digest(), before);
        due("refused: B", x.count(9), 2);
        due("refused: THE WORD", x.count(10), 2);
        due("refused: what can be undone", x.count(11), 3);
        due("refused: what was seen", x.forget(), 1);
    }
}
