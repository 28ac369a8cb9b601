/** The document's 'Terms': for each sentence that names a limit a test of its own, on both sides of it. */
public final class TermsTest {
    private static final int BAD = BurstWords.BAD, STATE = BurstWords.STATE, FULL = BurstWords.FULL;
    private static final int NONE = BurstWords.NONE;
    private static final Checks CHECKS = new Checks();

    public static void main(String[] args) {
        theWord();
        words();
        bound();
        shape();
        added();
        taken();
        undone();
        depthAndLetters();
        tellingAndShared();
        likeAndTop();
        seen();
        fitAndAsk();
        odds();
        nothingIsChanged();
        theFirstOfThese();
        calls();
        CHECKS.finish();
    }

    private static Run run(String sentence) {
        return new Run(CHECKS, sentence);
    }

    /** The n-th of the words of two letters, in order. */
    private static String two(int n) {
        return "" + (char) ('a' + n / 26) + (char) ('a' + n % 26);
    }

    /** The n-th of the words of one letter. */
    private static String one(int n) {
        return "" + (char) ('a' + n);
    }

    private static Run withWords(Run run, int many) {
        for (int n = 0; n < many; n++) {
            run.add(two(n));
        }
        return run;
    }

    // ---- 1 THE WORD

    private static void theWord() {
        Run run = run("0 to 7 letters");
        run.still(0, "count", 10);
        for (int n = 1; n <= 7; n++) {
            run.due(n, "type", 'k').due(n, "count", 10);
        }
        run.still(FULL, "type", 'k').due(7, "count", 10).due(7, "clear").due(0, "count", 10).due(1, "type", 'k');
        run("letters a .. z").still(BAD, "type", 'a' - 1).due(1, "type", 'a').due(2, "type", 'z')
                .still(BAD, "type", 'z' + 1).stillOfEach(BAD, "type", 'A', 'Z', 0, 1, 25, 26, -1, -97, 'a' + 256,
                        'a' + 65536, Integer.MIN_VALUE, Integer.MAX_VALUE).due(2, "count", 10);
        run = run("told letter by letter").add("zya");
        run.dueWord("zya", "unlike", 0);
        run = run("it stays till it is cleared").add("abc").add("abd").add("ab");
        for (Call other : OTHERS) {
            run.call(other.name(), other.numbers());
            run.due(2, "count", 10).due(2, "longest").due('c', "next", 2);
        }
        run.due(2, "clear").due(0, "count", 10).due(NONE, "longest");
    }

    /** Calls that leave THE WORD as it is, and, all together, the words as well. */
    private static final Call[] OTHERS = {new Call("bounds", 4), new Call("bounds", 9), new Call("adds"),
        new Call("takes"), new Call("adds"), new Call("undo"), new Call("times"), new Call("rank"), new Call("begin"),
        new Call("depth"), new Call("container", 0), new Call("telling"), new Call("longest"), new Call("like", 1),
        new Call("odds", 0), new Call("kth", 0, 0), new Call("unlike", 0, 0), new Call("next", 0),
        new Call("top", 0, 0), new Call("sees", 0, 'z', 1), new Call("forget"), new Call("fit", 0), new Call("ask"),
        new Call("count", 0), new Call("digest"), new Call("type", 'Z')};

    private static void words() {
        run("WORDS: 1 to 7 letters").still(BAD, "adds").say("a").due(1, "adds").say("abcdefg").due(1, "adds")
                .due(1, "unlike", 0, -1).due(7, "unlike", 1, -1).dueWord("abcdefg", "unlike", 1);
        withWords(run("40 unlike ones at most"), 39).due(39, "count", 0).say("zz").due(1, "adds").due(40, "count", 0)
                .say("zzz").still(FULL, "adds").due(0, "times").due(40, "count", 0);
        withWords(run("40 unlike ones at most: one that is there is no other one"), 40).say(two(0)).due(2, "adds")
                .due(40, "count", 0).due(41, "count", 1);
        withWords(run("40 unlike ones at most: with one less there is room again"), 40).take(two(20)).say("zz")
                .due(1, "adds").say(two(20)).still(FULL, "adds").due(40, "count", 0);
        run("each there 99 times at most").add("ab").addAgain(97).due(98, "times").due(99, "adds").still(FULL, "adds")
                .due(99, "times").due(99, "count", 1).due(98, "takes").due(99, "adds").still(FULL, "adds");
        run("each there 99 times at most: each of them").add("ab").addAgain(98).say("a").due(1, "adds").say("abc")
                .due(1, "adds").say("ab").still(FULL, "adds");
        run("each there once at least").add("ab", "ab").due(1, "takes").due(1, "count", 0).due(0, "takes")
                .due(0, "count", 0).due(0, "times").still(STATE, "takes");
        run("Order: by letters, the first that differs").add("b", "azzzzzz", "za", "abzzzzz", "ac")
                .dueWord("abzzzzz", "unlike", 0).dueWord("ac", "unlike", 1).dueWord("azzzzzz", "unlike", 2)
                .dueWord("b", "unlike", 3).dueWord("za", "unlike", 4);
        run("Order: of two of which one begins the other the shorter one is less").add("aaaaaaa", "aa", "a", "aaa")
                .dueWord("a", "unlike", 0).dueWord("aa", "unlike", 1).dueWord("aaa", "unlike", 2)
                .dueWord("aaaaaaa", "unlike", 3).say("aaaaaa").due(3, "rank");
    }

    private static void bound() {
        run("B (4 at first)").due(4, "count", 9).add("a", "b", "c", "d").due(0, "count", 2).due(4, "count", 4).add("e")
                .due(1, "count", 2);
        Run limits = run("B (2 .. 8)");
        limits.still(BAD, "bounds", 1).due(4, "bounds", 2).due(2, "count", 9).due(2, "bounds", 8).due(8, "count", 9)
                .still(BAD, "bounds", 9).due(8, "count", 9);
        for (int b = 2; b <= 8; b++) {
            Run run = run("how many unlike WORDS a CONTAINER holds at most: " + b);
            run.call("bounds", b);
            for (int n = 0; n < b; n++) {
                run.add(one(n));
            }
            run.due(0, "count", 2).due(1, "count", 3).due(b, "count", 4).add(one(b)).due(1, "count", 2)
                    .due(b + 1, "count", 3).due(1, "count", 4);
            half(b);
        }
    }

    private static void half(int b) {
        int m = b / 2;
        Run run = run("M is half of B, cut: B is " + b);
        run.call("bounds", b);
        for (int n = 0; n <= b; n++) {
            run.add(one(n));
        }
        for (int n = b; n >= m; n--) {
            run.due(1, "count", 2).take(one(n)).due(n, "count", 0);
        }
        run.due(0, "count", 2).due(1, "count", 3).due(m, "count", 4);
    }

    // ---- 2 A BEGINNING

    private static void shape() {
        run("A BEGINNING: none, all of them, too").add("abc", "abd").say("").due(2, "begin").say("abc").due(1, "begin")
                .say("abcd").due(0, "begin");
        run("NODES (none at first)").due(0, "count", 2).due(0, "depth").add("a", "ab", "b", "c").due(0, "count", 2)
                .due(0, "depth").due(0, "count", 5).add("d").due(1, "count", 2);
        Run root = run("The CONTAINER of none, if there are no NODES").add("abc", "b");
        for (String word : new String[] {"", "a", "abc", "b", "zzzzzzz"}) {
            root.say(word).due(2, "container", 0).due(0, "container", 1);
        }
        root.add("c", "d", "e").say("").due(NONE, "container", 1).say("abc").due(1, "container", 1);
        Run run = run("letters that are no NODE, while all shorter BEGINNINGS of them are");
        run.call("bounds", 2);
        run.add("aab", "aac", "ab").say("aab").due(2, "container", 0).due(2, "container", 1).say("ab")
                .due(1, "container", 0).due(2, "container", 1).say("aabbb").due(2, "container", 1);
        run = run("A WORD that is a NODE ENDS there, and is in no CONTAINER");
        run.call("bounds", 2);
        run.add("ab", "abc").say("ab").due(2, "container", 0).due(5, "count", 6).add("abd").say("ab")
                .due(NONE, "container", 0).due(NONE, "container", 1).due(3, "depth").due(2, "count", 3)
                .due(1, "count", 4).due(0, "count", 6).due(3, "count", 0);
        run = run("CONTAINERS that hold none are none");
        run.due(0, "count", 3).due(0, "count", 4).due(NONE, "container", 0).due(NONE, "container", 1);
        run.call("bounds", 2);
        run.add("a", "b", "c").due(3, "count", 3).say("d").due(NONE, "container", 0).due(NONE, "container", 1)
                .take("c").due(2, "count", 3).due(NONE, "container", 0).due(1, "count", 2);
    }

    private static void added() {
        Run run = run("ADDED: more than B unlike WORDS");
        run.call("bounds", 2);
        run.add("ab", "ac", "ab", "ab").due(0, "count", 2).add("b").due(1, "count", 2).due(2, "count", 3);
        run = run("likewise the CONTAINER of THE WORD then, and so on");
        run.call("bounds", 2);
        run.add("aaaaaaa", "aaaaaab").due(0, "count", 2).add("aaaaaac").due(7, "count", 2).due(7, "count", 5)
                .due(3, "count", 3).due(0, "count", 6).due(7, "depth").due(7, "container", 1);
        run = run("and so on: no further than it is too full");
        run.call("bounds", 2);
        run.add("aab", "aac", "abx").due(2, "count", 2).due(2, "count", 3).due(2, "count", 4).due(2, "depth");
        run = run("the CONTAINER of THE WORD: another one that is just full stays");
        run.call("bounds", 2);
        run.add("ab", "ac", "b").due(1, "count", 2).add("ba", "bb").due(2, "count", 2).say("ab").due(1, "depth")
                .due(2, "container", 0);
        run = run("its CONTAINER: a WORD that is a NODE has none that could burst");
        run.call("bounds", 2);
        run.add("aa", "ab", "ac").due(2, "count", 2).due(3, "count", 3).say("a").due(1, "adds").due(2, "count", 2)
                .due(3, "count", 3).due(2, "depth").due(NONE, "container", 0);
        run = run("its letters become a NODE: THE WORD itself, as the last one");
        run.call("bounds", 2);
        run.add("aaaaaaa", "aaaaaab", "aaaaaa").due(7, "count", 2).due(7, "depth").due(NONE, "container", 0)
                .due(2, "count", 3);
    }

    private static void taken() {
        run("TAKEN: one of a WORD goes (the last one: the WORD is no more there)").add("ab", "ab", "ac").say("ab")
                .due(1, "takes").due(2, "count", 0).due(2, "count", 1).due(0, "takes").due(1, "count", 0)
                .due(1, "count", 1);
        Run run = run("unlike WORDS: how often they are there keeps no NODE");
        run.call("bounds", 2);
        run.add("ab", "ac", "ac", "ac", "ad").take("ab").due(2, "count", 2).take("ad").due(0, "count", 2)
                .due(3, "count", 1);
        run = run("unlike WORDS: one of several taken ends no NODE");
        run.call("bounds", 2);
        run.add("ab", "ac", "ad", "ad").take("ab").say("ad").due(1, "takes").due(2, "count", 2).due(0, "takes")
                .due(0, "count", 2);
        run = run("the longest NODE that begins the WORD (perhaps it itself)");
        run.call("bounds", 2);
        run.add("a", "aa", "ab").due(2, "count", 2).take("aa").due(2, "count", 2).take("a").due(0, "count", 2)
                .due(1, "count", 3);
        run = run("to the shortest one, up to the first one that stays");
        run.call("bounds", 2);
        run.add("aaaa", "aaab", "aaac", "b").due(4, "count", 2).take("aaab").due(4, "count", 2).take("aaac")
                .due(1, "count", 2).due(1, "count", 5).due(2, "count", 3).take("b").due(0, "count", 2);
        run = run("that begins the WORD: other NODES stay");
        run.call("bounds", 2);
        run.add("aa", "ab", "ac", "ba", "bb", "bc").due(3, "count", 2).take("ba", "bb").due(2, "count", 2).say("aa")
                .due(2, "depth").say("bc").due(1, "depth");
    }

    private static void undone() {
        Run run = run("12 are known").add("a").addAgain(11).due(12, "count", 11);
        for (int n = 11; n >= 0; n--) {
            run.due(n, "undo").due(n, "times");
        }
        run.due(0, "count", 0).still(STATE, "undo");
        run = run("older ones are lost").add("a").addAgain(12).due(12, "count", 11);
        for (int n = 11; n >= 0; n--) {
            run.due(n, "undo").due(n + 1, "times");
        }
        run.still(STATE, "undo").due(1, "count", 0);
        lostOnes();
        run("the latest that was not refused: adds()").add("a").addAgain(98).due(FULL, "adds").due(FULL, "adds")
                .due(11, "undo").due(98, "times").say("").due(BAD, "adds").due(10, "undo").say("a").due(97, "times");
        run("the latest that was not refused: takes()").add("a", "b").say("c").due(STATE, "takes").due(1, "undo")
                .say("b").due(0, "times").due(STATE, "takes").due(0, "undo").say("a").due(0, "times");
        run("adds(), takes(): what is UNDONE is none of them").add("a", "b").due(1, "undo").due(0, "undo")
                .due(STATE, "undo").due(0, "count", 0);
        run = run("UNDONE: WORDS, NODES, of adds()");
        run.call("bounds", 2);
        run.add("aaaaaaa", "aaaaaab");
        long two = run.call("digest");
        run.add("aaaaaac").due(7, "count", 2).due(2, "undo").due(0, "count", 2).due(two, "digest").due(1, "count", 3);
        run = run("UNDONE: WORDS, NODES, of takes()");
        run.call("bounds", 2);
        run.add("aaaaaaa", "aaaaaab", "aaaaaac").take("aaaaaaa");
        long split = run.call("digest");
        run.take("aaaaaab").due(0, "count", 2).due(4, "undo").due(7, "count", 2).due(split, "digest")
                .due(2, "count", 3);
        withWords(run("UNDONE: the fortieth WORD"), 40).take(two(7)).due(39, "count", 0).due(11, "undo")
                .due(40, "count", 0).say("zz").still(FULL, "adds");
        run("UNDONE: the ninety-ninth time").add("a").addAgain(98).due(98, "takes").due(11, "undo").due(99, "times")
                .still(FULL, "adds");
    }

    /** Each of the unlike words alters the shape, so that no other state could be taken for the one that is due. */
    private static void lostOnes() {
        Run run = run("older ones are lost: of 14 unlike ones, each with its NODES, the first two");
        run.call("bounds", 2);
        long[] digests = new long[14];
        for (int n = 0; n < 14; n++) {
            digests[n] = run.call("digest");
            run.add(two(26 * (n % 3) + n));
        }
        for (int n = 13; n >= 2; n--) {
            run.due(n - 2, "undo").due(digests[n], "digest");
        }
        run.still(STATE, "undo").due(2, "count", 0).dueWord("aa", "unlike", 0).dueWord("bb", "unlike", 1);
    }

    // ---- 3 Nothing is changed

    private static void depthAndLetters() {
        Run run = run("DEPTH of THE WORD (there or not): none, itself, too");
        run.due(0, "depth").say("zzz").due(0, "depth");
        run.call("bounds", 2);
        run.add("ab", "abc", "abd");
        String[] words = {"", "a", "ab", "abc", "abz", "abcdefg", "ac", "b"};
        int[] depths = {1, 2, 3, 3, 3, 3, 2, 1};
        for (int n = 0; n < words.length; n++) {
            run.say(words[n]).due(depths[n], "depth");
        }
        run("LETTERS: those behind the letters of the CONTAINER").due(0, "count", 6).add("abc", "b", "c", "d")
                .due(6, "count", 6).add("e").due(2, "count", 6);
        run("LETTERS: each unlike WORD once").add("abc", "abc", "abc", "de").due(5, "count", 6);
        Run ends = run("LETTERS: of each WORD in a CONTAINER, not of one that ENDS at a NODE");
        ends.call("bounds", 2);
        ends.add("ab", "abc", "abdef").due(2, "count", 6).take("ab").due(2, "count", 6);
    }

    private static void tellingAndShared() {
        run("TELLING: the fewest letters, none of them if it is alone").add("abc", "abc").due(0, "telling").add("z")
                .due(1, "telling").say("abc").due(1, "telling");
        run("TELLING: with which no other one begins").add("abcdefg", "abcdefh").due(7, "telling").add("abx")
                .due(3, "telling").add("a").say("abx").due(3, "telling");
        run("TELLING: all of it and one more, if there is none such").add("ab", "ac").say("ab").due(2, "telling")
                .add("abc").say("ab").due(3, "telling").say("abc").due(3, "telling").add("aaaaaa", "aaaaaaa")
                .say("aaaaaa").due(7, "telling").say("aaaaaaa").due(7, "telling");
        run("SHARED: of two neighbours").due(NONE, "count", 7).due(0, "count", 8).add("abc", "abc")
                .due(NONE, "count", 7).due(0, "count", 8).add("x").due(0, "count", 7).due(1, "count", 8);
        run("SHARED: how many letters at the beginning are alike").add("xbc", "abc").due(0, "count", 7)
                .add("aaaaaaa", "aaaaaab").due(6, "count", 7).due(1, "count", 8).add("aaaaaa").due(6, "count", 7)
                .due(2, "count", 8);
        run("SHARED: neighbours in order").add("abx", "aby", "az").due(2, "count", 7).due(1, "count", 8).add("abxx")
                .due(3, "count", 7).due(1, "count", 8);
    }

    private static void likeAndTop() {
        run("LIKE by d (0 .. 7)").add("aaaaaaa", "aaaaaab").say("aaaaaaa").still(BAD, "like", -1).due(1, "like", 0)
                .due(2, "like", 1).due(2, "like", 7).still(BAD, "like", 8);
        Run run = run("LIKE: at d places at most").add("aaaaaaa", "bbbbbbb", "bbbbbba", "bbbbaaa").say("aaaaaaa");
        int[] alike = {1, 1, 1, 1, 2, 2, 3, 4};
        for (int d = 0; d <= 7; d++) {
            run.due(alike[d], "like", d);
        }
        run("LIKE: WORDS of as many letters as THE WORD").add("ab", "abc", "abcd", "xyz").say("abd").due(1, "like", 1)
                .due(2, "like", 3).due(2, "like", 7).say("").due(0, "like", 7);
        run("LIKE: how many unlike ones").add("ab", "ab", "ac").say("ab").due(1, "like", 0).due(2, "like", 1);
        run("TOP: unlike WORDS that begin with THE WORD").add("a", "ab", "ab", "b", "b", "b").say("a")
                .dueWord("ab", "top", 0).dueWord("a", "top", 1).dueWord(null, "top", 2);
        run("TOP: by how often they are there, the most first, of like ones the lesser first")
                .add("a", "b", "b", "c", "c", "d", "d", "d", "e").say("").dueWord("d", "top", 0).dueWord("b", "top", 1)
                .dueWord("c", "top", 2).dueWord("a", "top", 3).dueWord("e", "top", 4).dueWord(null, "top", 5);
    }

    private static void seen() {
        Run run = run("SEEN (8 at most)");
        for (int n = 1; n <= 8; n++) {
            run.due(n, "sees", n % 7, 'a' + n, n % 2);
        }
        run.still(FULL, "sees", 0, 'a', 1).still(FULL, "sees", 1, 'b', 1).due(8, "forget").due(1, "sees", 0, 'a', 1);
        run("letter i (0 .. 6)").still(BAD, "sees", -1, 'a', 1).due(1, "sees", 0, 'a', 1).due(2, "sees", 6, 'a', 1)
                .still(BAD, "sees", 7, 'a', 1).due(2, "forget");
        run("is c (1)").add("a", "b", "ab").due(1, "sees", 0, 'a', 1).due(2, "fit", 0).due(2, "sees", 1, 'b', 1)
                .due(1, "fit", 0).due(1, "fit", 1);
        run("or is not, or there is none (0)").add("a", "b", "ab", "ac").due(1, "sees", 1, 'b', 0).due(3, "fit", 0)
                .due(2, "sees", 0, 'a', 0).due(1, "fit", 0).due(3, "fit", 1);
        run("letter i: the seventh").add("aaaaaa", "aaaaaaa", "aaaaaab").due(1, "sees", 6, 'b', 1).due(1, "fit", 0)
                .due(2, "fit", 1).due(1, "forget").due(1, "sees", 6, 'b', 0).due(2, "fit", 0);
    }

    private static void fitAndAsk() {
        run("FIT: by which all that was SEEN is so").due(0, "fit", 0).add("ab", "ac", "b").due(3, "fit", 0)
                .due(1, "sees", 0, 'a', 1).due(2, "fit", 0).due(2, "sees", 1, 'c', 1).due(1, "fit", 0)
                .due(3, "sees", 1, 'b', 1).due(0, "fit", 0).due(NONE, "fit", 1);
        run("FIT: unlike WORDS, by the number among unlike ones (0 on); NONE").due(NONE, "fit", 1).add("a", "a", "b")
                .due(2, "fit", 0).due(0, "fit", 1).due(1, "sees", 0, 'b', 1).due(1, "fit", 0).due(1, "fit", 1)
                .take("b").due(0, "fit", 0).due(NONE, "fit", 1);
        run("ASK: NONE (one can be at most)").due(NONE, "ask").add("ab", "ab").due(NONE, "ask").add("b").due(0, "ask")
                .due(1, "sees", 0, 'b', 1).due(NONE, "ask").due(2, "sees", 0, 'a', 1).due(NONE, "ask");
        run("ASK: the greater part of these is smallest").add("ax", "bx", "cx", "cy").due(2, "ask").add("dy")
                .due(2, "ask").add("ey", "fx").due(32 + 23, "ask");
        run("ASK: of several the first (by i, then c)").add("bd", "be", "cd", "ce").due(1, "ask").add("a")
                .due(1, "ask").due(1, "sees", 0, 'c', 1).due(32 + 3, "ask");
        run("ASK: 32 i and the number of c (0 a ..): the least, the greatest").add("a", "b").due(0, "ask")
                .take("a", "b").add("aaaaaa", "aaaaaaz").due(32 * 6 + 25, "ask");
    }

    private static void odds() {
        run("ODDS: 0 by 1, if there are none").still(0, "odds", 0).still(1, "odds", 1).say("a").due(0, "odds", 0)
                .due(1, "odds", 1).due(1, "adds").due(1, "odds", 0).due(1, "odds", 1).due(0, "takes")
                .due(0, "odds", 0).due(1, "odds", 1);
        run("ODDS: of all WORDS (as often as they are there)").add("ab", "ab", "ab", "b").say("a").due(3, "odds", 0)
                .due(4, "odds", 1).say("").due(1, "odds", 0).due(1, "odds", 1).say("c").due(0, "odds", 0)
                .due(1, "odds", 1);
    }

    /** In a state with words, nodes, what was seen, what can be undone, and THE WORD. */
    private static Run busy(String sentence) {
        Run run = run(sentence);
        run.call("bounds", 2);
        run.add("ab", "abc", "abd", "b", "ab").take("abd").add("abe");
        run.call("sees", 1, 'b', 1);
        run.call("sees", 2, 'c', 0);
        return run.say("ab");
    }

    private static void nothingIsChanged() {
        Run run = busy("Nothing is changed");
        run.still(2, "times").still(0, "rank").still(4, "begin").still(3, "depth").still(NONE, "container", 0)
                .still(NONE, "container", 1).still(3, "telling").still(2, "longest").still(1, "like", 0)
                .still(1, "like", 7).still(4, "odds", 0).still(5, "odds", 1).still(2, "kth", 1, -1)
                .still('b', "unlike", 3, 0).still(NONE, "unlike", 4, 0).still('c', "next", 2)
                .still('b', "top", 0, 1).still(NONE, "top", 3, 0).still(2, "fit", 0).still(0, "fit", 1)
                .still(64 + 4, "ask").still(run.call("digest"), "digest");
        int[] counts = {4, 5, 3, 3, 1, 3, 0, 2, 2, 2, 2, 7};
        for (int what = 0; what < counts.length; what++) {
            run.still(counts[what], "count", what);
        }
    }

    private static void theFirstOfThese() {
        String rule = "the first of these: BAD, STATE, FULL: ";
        busy(rule + "bounds").still(BAD, "bounds", 1).still(BAD, "bounds", 9).still(STATE, "bounds", 2)
                .still(STATE, "bounds", 8);
        run(rule + "type").say("abcdefg").still(BAD, "type", 'a' - 1).still(BAD, "type", 'z' + 1)
                .still(FULL, "type", 'a').still(FULL, "type", 'z');
        withWords(run(rule + "adds"), 40).say("").still(BAD, "adds").say("zz").still(FULL, "adds").say("a")
                .still(FULL, "adds");
        Run sees = run(rule + "sees");
        for (int n = 0; n < 8; n++) {
            sees.call("sees", 0, 'a', 1);
        }
        sees.still(BAD, "sees", 7, 'a', 1).still(BAD, "sees", 0, 'z' + 1, 1).still(BAD, "sees", 0, 'a', 2)
                .still(FULL, "sees", 0, 'a', 1);
    }

    private static void calls() {
        Run run = run("An object is used for at most 512 calls");
        run.call("bounds", 2);
        while (run.used() < 499) {
            run.call("sees", 0, 'a', 1);
        }
        run.add("ab", "ac", "ad").due(3, "count", 0);
        CHECKS.due("that was the last call", run.used(), 512);
        run = run("An object is used for at most 512 calls: all of them changes");
        run.say("ab");
        for (int n = 1; run.used() < 511; n++) {
            run.due(n % 2, n % 2 == 1 ? "adds" : "takes");
        }
        run.due(11, "undo");
        CHECKS.due("that was the last call", run.used(), 512);
    }
}
