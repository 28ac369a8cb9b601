/** The document's promises, one after the other: what each call answers at its edges, and what it refuses. */
public final class EdgesTest {
    private static final int BAD = BurstWords.BAD, STATE = BurstWords.STATE, FULL = BurstWords.FULL;
    private static final int NONE = BurstWords.NONE;
    private static final int LEAST = Integer.MIN_VALUE, MOST = Integer.MAX_VALUE;
    private static final Checks CHECKS = new Checks();

    public static void main(String[] args) {
        newObject();
        type();
        clear();
        bounds();
        adds();
        takes();
        undo();
        times();
        rank();
        begin();
        depth();
        container();
        telling();
        longest();
        like();
        odds();
        kth();
        unlike();
        next();
        top();
        sees();
        forget();
        fit();
        ask();
        count();
        digest();
        CHECKS.finish();
    }

    private static Run run(String sentence) {
        return new Run(CHECKS, sentence);
    }

    private static Run withBound(String sentence, int b) {
        Run run = run(sentence);
        run.call("bounds", b);
        return run;
    }

    /** As many unlike words as there may be. */
    private static Run full(String sentence) {
        Run run = run(sentence);
        for (int n = 0; n < 40; n++) {
            run.add("" + (char) ('a' + n % 8) + (char) ('a' + n / 8));
        }
        return run;
    }

    private static void newObject() {
        Run run = run("Promise 1: No WORDS");
        run.still(0, "clear").still(STATE, "takes").still(BAD, "adds").still(STATE, "undo").still(0, "times")
                .still(0, "rank").still(0, "begin").still(0, "depth").still(NONE, "container", 0)
                .still(NONE, "container", 1).still(NONE, "telling").still(NONE, "longest").still(0, "like", 0)
                .still(0, "like", 7).still(0, "odds", 0).still(1, "odds", 1).dueWord(null, "kth", 0)
                .dueWord(null, "unlike", 0).dueWord(null, "next").dueWord(null, "top", 0).still(0, "forget")
                .still(0, "fit", 0).still(NONE, "fit", 1).still(NONE, "ask").still(17, "digest");
        int[] counts = {0, 0, 0, 0, 0, 0, 0, NONE, 0, 4, 0, 0};
        for (int what = 0; what < counts.length; what++) {
            run.still(counts[what], "count", what);
        }
        run = run("Promise 1: No WORDS, also with a word told that is not there").say("abc");
        run.still(STATE, "takes").still(0, "times").still(0, "rank").still(0, "begin").still(0, "depth")
                .still(NONE, "container", 0).still(NONE, "telling").still(NONE, "longest").still(0, "like", 7)
                .dueWord(null, "next").dueWord(null, "top", 0);
    }

    private static void type() {
        Run run = run("Promise 2: how many it has");
        for (int n = 1; n <= 7; n++) {
            run.due(n, "type", n % 2 == 0 ? 'a' : 'z');
        }
        run.due(1, "adds").dueWord("zazazaz", "unlike", 0);
        run("Promise 2: BAD").stillOfEach(BAD, "type", 'a' - 1, 'z' + 1, 'A', 'Z', '0', ' ', 0, 25, 26, -1, 'a' + 256,
                'a' - 256, 'a' + 65536, LEAST, MOST).due(0, "count", 10).due(1, "type", 'a').due(2, "type", 'z');
        run("Promise 2: FULL: 7").say("aaaaaa").due(7, "type", 'b').still(FULL, "type", 'b').still(FULL, "type", 'c')
                .still(BAD, "type", 'a' - 1).still(BAD, "type", MOST).due(1, "adds").dueWord("aaaaaab", "unlike", 0);
    }

    private static void clear() {
        run("Promise 3: how many letters it had").still(0, "clear").say("a").due(1, "clear").due(0, "clear")
                .say("abcdefg").due(7, "clear").due(0, "clear").due(1, "type", 'x');
        Run run = run("Promise 3: THE WORD is empty, and only that changes").add("ab", "ac", "ab");
        run.call("sees", 0, 'a', 1);
        long before = run.call("digest");
        run.due(2, "clear").due(0, "count", 10).due(0, "times").due(before, "digest").due(3, "count", 11)
                .due(4, "count", 9).due(2, "fit", 0).due(1, "forget").still(BAD, "adds");
    }

    private static void bounds() {
        run("Promise 4: what it was").due(4, "bounds", 2).due(2, "bounds", 3).due(3, "bounds", 8).due(8, "bounds", 8)
                .due(8, "bounds", 4).due(4, "count", 9);
        run("Promise 4: BAD").stillOfEach(BAD, "bounds", 1, 9, 0, -1, -2, -8, 10, 256 + 4, LEAST, MOST)
                .due(4, "count", 9).due(4, "bounds", 2).stillOfEach(BAD, "bounds", 1, 9).due(2, "bounds", 8)
                .stillOfEach(BAD, "bounds", 1, 9).due(8, "count", 9);
        run("Promise 4: STATE: there are WORDS").due(4, "bounds", 5).add("a", "a").stillOfEach(STATE, "bounds", 2, 5, 8)
                .stillOfEach(BAD, "bounds", 1, 9).due(1, "takes").still(STATE, "bounds", 3).due(0, "takes")
                .due(5, "bounds", 3).due(3, "count", 9);
        run("Promise 4: nothing can be UNDONE behind it").add("a").due(0, "takes").due(2, "count", 11)
                .still(BAD, "bounds", 9).due(2, "count", 11).due(4, "bounds", 4).due(0, "count", 11)
                .still(STATE, "undo").due(1, "adds").due(1, "count", 11).due(0, "undo").still(STATE, "undo");
        run("Promise 4: STATE takes nothing away of what can be UNDONE").add("a").still(STATE, "bounds", 3)
                .due(0, "undo").due(0, "count", 0).due(4, "bounds", 3);
        run("Promise 4: THE WORD and what was SEEN stay").say("ab").due(1, "sees", 0, 'a', 1).due(4, "bounds", 2)
                .due(2, "count", 10).due(1, "forget").due(1, "adds").dueWord("ab", "unlike", 0);
    }

    private static void adds() {
        run("Promise 5: BAD: it is empty").still(BAD, "adds").add("a").due(1, "clear").still(BAD, "adds")
                .due(1, "count", 0);
        full("Promise 5: BAD: it is empty, also when there are 40").say("").still(BAD, "adds").due(40, "count", 0);
        full("Promise 5: FULL: 40 unlike ones").say("zz").still(FULL, "adds").say("a").still(FULL, "adds").say("aaaaaaa")
                .still(FULL, "adds").due(40, "count", 0).due(40, "count", 1).say("aa").due(2, "adds").due(1, "takes")
                .due(0, "takes").say("zz").due(1, "adds").say("aa").still(FULL, "adds");
        run("Promise 5: FULL: 99 of it").add("q").addAgain(97).due(99, "adds").still(FULL, "adds").still(FULL, "adds")
                .due(99, "times").say("qq").due(1, "adds").say("q").still(FULL, "adds").due(98, "takes")
                .due(99, "adds");
        full("Promise 5: FULL: 40 unlike ones, 99 of it, both").say("aa").addAgain(98).due(99, "times")
                .still(FULL, "adds").say("zz").still(FULL, "adds").say("ba").due(2, "adds").due(139, "count", 1);
    }

    private static void takes() {
        Run run = run("Promise 6: STATE: it is not").still(STATE, "takes").add("ab", "ab");
        for (String word : new String[] {"", "a", "abc", "aa", "b", "zzzzzzz"}) {
            run.say(word).still(STATE, "takes");
        }
        run.due(2, "count", 1).due(2, "count", 11);
        run("Promise 6: how often THE WORD is there yet").add("ab", "ab", "ab").due(2, "takes").due(1, "takes")
                .due(0, "takes").still(STATE, "takes").due(6, "count", 11).due(1, "adds").due(0, "takes");
        run("Promise 6: how often THE WORD is there yet, of 99").add("ab").addAgain(98).due(98, "takes")
                .due(98, "times");
    }

    private static void undo() {
        run("Promise 7: STATE: none").still(STATE, "undo").add("a").due(0, "undo").still(STATE, "undo").due(1, "adds")
                .due(0, "takes").due(1, "undo").due(0, "undo").still(STATE, "undo");
        Run run = run("Promise 7: how many more may be").add("a").addAgain(20).due(12, "count", 11);
        for (int n = 11; n >= 0; n--) {
            run.due(n, "undo").due(n, "count", 11);
        }
        run.still(STATE, "undo").due(9, "times");
        run = run("Promise 7: behind it as many more can be known").add("a").addAgain(11).due(11, "undo")
                .due(10, "undo").due(11, "adds").due(11, "count", 11).due(12, "adds").due(12, "count", 11)
                .due(13, "adds").due(12, "count", 11);
        for (int n = 11; n >= 0; n--) {
            run.due(n, "undo");
        }
        run.due(1, "times").still(STATE, "undo");
        run = withBound("Promise 7: THE WORD, B and what was SEEN stay", 2).add("ab").say("xyz");
        run.call("sees", 0, 'a', 1);
        run.due(0, "undo").due(3, "count", 10).due(2, "count", 9).due(1, "forget").due(1, "adds")
                .dueWord("xyz", "unlike", 0);
        run("Promise 7: the last one of a WORD comes again").add("ab", "b").take("ab").due(2, "undo").due(2, "count", 0)
                .dueWord("ab", "unlike", 0).due(1, "undo").due(0, "undo").due(0, "count", 0);
    }

    private static void times() {
        run("Promise 8: how often it is there").still(0, "times").say("ab").still(0, "times").due(1, "adds")
                .still(1, "times").addAgain(98).still(99, "times").say("a").still(0, "times").say("abc")
                .still(0, "times").say("").still(0, "times");
    }

    private static void rank() {
        run("Promise 9: less").add("ab", "b").say("").still(0, "rank").say("a").still(0, "rank").say("ab")
                .still(0, "rank").say("aba").still(1, "rank").say("b").still(1, "rank").say("ba").still(2, "rank")
                .say("zzzzzzz").still(2, "rank");
        run("Promise 9: as often as they are there").add("a").addAgain(98).add("b", "b").say("a").still(0, "rank")
                .say("b").still(99, "rank").say("c").still(101, "rank");
    }

    private static void begin() {
        run("Promise 10: begin with it").add("abc", "ab", "b").say("").still(3, "begin").say("a").still(2, "begin")
                .say("ab").still(2, "begin").say("abc").still(1, "begin").say("abcd").still(0, "begin").say("c")
                .still(0, "begin");
        run("Promise 10: as often as they are there").add("ab").addAgain(98).add("ac", "ac").say("a")
                .still(101, "begin").say("ab").still(99, "begin").say("").still(101, "begin");
    }

    private static void depth() {
        run("Promise 11: none").still(0, "depth").add("a", "b", "c", "d").still(0, "depth").say("").still(0, "depth")
                .add("e").still(1, "depth").say("").still(1, "depth");
        withBound("Promise 11: as deep as can be", 2).add("aaaaaaa", "aaaaaab", "aaaaaa").say("aaaaaaa")
                .still(7, "depth").say("aaaaaa").still(7, "depth").say("aaaaa").still(6, "depth").say("aaaaaaz")
                .still(7, "depth").say("aaaaazz").still(6, "depth").say("z").still(1, "depth").say("")
                .still(1, "depth");
    }

    private static void container() {
        run("Promise 12: BAD").stillOfEach(BAD, "container", -1, 2, 3, LEAST, MOST).add("a")
                .stillOfEach(BAD, "container", -1, 2).still(1, "container", 0).still(0, "container", 1);
        withBound("Promise 12: NONE: it is a NODE", 2).add("ab", "abc", "abd").say("").still(NONE, "container", 0)
                .still(NONE, "container", 1).still(BAD, "container", 2).say("a").still(NONE, "container", 0).say("ab")
                .still(NONE, "container", 1).say("abc").still(1, "container", 0).still(3, "container", 1);
        withBound("Promise 12: NONE: there is none", 2).say("a").still(NONE, "container", 0).add("a", "b", "c").say("d")
                .still(NONE, "container", 0).still(NONE, "container", 1).still(BAD, "container", -1).due(1, "adds")
                .still(1, "container", 0).still(1, "container", 1).due(0, "takes").still(NONE, "container", 0);
        Run run = withBound("Promise 12: how many unlike WORDS it holds", 8)
                .add("a", "b", "c", "d", "e", "f", "g", "a");
        run.still(7, "container", 0).add("h").still(8, "container", 0).still(0, "container", 1).add("i")
                .still(1, "container", 0).still(1, "container", 1);
        withBound("Promise 12: how many letters that has, at most", 2).add("aaaaaaa", "aaaaaab", "aaaaaac")
                .still(7, "container", 1).still(1, "container", 0).say("aaaaaad").still(NONE, "container", 1);
    }

    private static void telling() {
        run("Promise 13: NONE: it is not there").still(NONE, "telling").say("ab").still(NONE, "telling").due(1, "adds")
                .still(0, "telling").say("").still(NONE, "telling").say("a").still(NONE, "telling").say("abc")
                .still(NONE, "telling").say("ab").due(0, "takes").still(NONE, "telling");
        run("Promise 13: TELLING, the least and the most").add("abcdefg").still(0, "telling").add("b")
                .still(1, "telling").add("abcdefh").still(7, "telling").add("abcdef").still(7, "telling")
                .say("abcdefg").still(7, "telling");
    }

    private static void longest() {
        run("Promise 14: NONE").still(NONE, "longest").say("ab").still(NONE, "longest").add("b", "abc", "bb").say("")
                .still(NONE, "longest").say("ab").still(NONE, "longest").say("a").still(NONE, "longest").say("c")
                .still(NONE, "longest");
        run("Promise 14: that begins it").add("a", "ab", "abcdefg").say("a").still(1, "longest").say("aa")
                .still(1, "longest").say("ab").still(2, "longest").say("abcdef").still(2, "longest").say("abcdefg")
                .still(7, "longest").due(0, "takes").still(2, "longest");
    }

    private static void like() {
        run("Promise 15: BAD").stillOfEach(BAD, "like", -1, 8, 9, -7, LEAST, MOST).add("ab")
                .stillOfEach(BAD, "like", -1, 8).still(1, "like", 0).still(1, "like", 7);
        run("Promise 15: LIKE, by no place and by all").add("abcdefg", "hijklmn", "hijklmg", "abcdef").say("abcdefg")
                .still(1, "like", 0).still(1, "like", 5).still(2, "like", 6).still(3, "like", 7).say("zzzzzzz")
                .still(0, "like", 6).still(3, "like", 7);
    }

    private static void odds() {
        run("Promise 16: BAD").stillOfEach(BAD, "odds", -1, 2, 3, LEAST, MOST).add("a").stillOfEach(BAD, "odds", -1, 2)
                .still(1, "odds", 0).still(1, "odds", 1);
        run("Promise 16: 0 by 1, if there are none").still(0, "odds", 0).still(1, "odds", 1).say("z")
                .still(0, "odds", 0).still(1, "odds", 1);
        run("Promise 16: in least terms").add("a").addAgain(5).add("b").addAgain(2).say("a").still(2, "odds", 0)
                .still(3, "odds", 1).say("b").still(1, "odds", 0).still(3, "odds", 1).say("").still(1, "odds", 0)
                .still(1, "odds", 1).say("c").still(0, "odds", 0).still(1, "odds", 1);
        run("Promise 16: where there are none less").add("a").addAgain(98).add("b").addAgain(97).say("a")
                .still(99, "odds", 0).still(197, "odds", 1);
    }

    private static void kth() {
        Run run = run("Promise 17: as often as they are there; 0 on; NONE").add("b", "ab", "b", "b");
        run.dueWord("ab", "kth", 0).dueWord("b", "kth", 1).dueWord("b", "kth", 3).dueWord(null, "kth", 4);
        run.still(NONE, "kth", 4, -1).still(NONE, "kth", MOST, 0).still('b', "kth", 3, 0);
        run = run("Promise 17: BAD: k").still(BAD, "kth", -1, 0).still(BAD, "kth", LEAST, -1).still(NONE, "kth", 0, 0)
                .add("abcdefg").still(BAD, "kth", -1, 0).still('a', "kth", 0, 0).still(NONE, "kth", 1, 0);
        run("Promise 17: BAD: i").still(BAD, "kth", 0, -2).still(BAD, "kth", 0, 7).add("abcdefg")
                .still(BAD, "kth", 0, -2).still(7, "kth", 0, -1).still('a', "kth", 0, 0).still('g', "kth", 0, 6)
                .still(BAD, "kth", 0, 7).still(BAD, "kth", 0, LEAST).still(BAD, "kth", 0, MOST)
                .still(BAD, "kth", 1, 7).still(BAD, "kth", MOST, -2);
        run("Promise 17: NONE: not so many").add("abc").still('c', "kth", 0, 2).still(NONE, "kth", 0, 3)
                .still(NONE, "kth", 0, 6).still(BAD, "kth", 0, 7);
        run("Promise 17: the k-th of 99").add("a").addAgain(98).add("b").still('a', "kth", 98, 0)
                .still('b', "kth", 99, 0).still(NONE, "kth", 100, 0);
    }

    private static void unlike() {
        Run run = run("Promise 18: the k-th of unlike WORDS; NONE").add("b", "ab", "b", "b");
        run.dueWord("ab", "unlike", 0).dueWord("b", "unlike", 1).dueWord(null, "unlike", 2);
        run.still(NONE, "unlike", 2, -1).still(NONE, "unlike", MOST, 0);
        run("Promise 18: BAD: k").still(BAD, "unlike", -1, 0).still(BAD, "unlike", LEAST, -1)
                .still(NONE, "unlike", 0, 0).add("abcdefg").still(BAD, "unlike", -1, 0).still('a', "unlike", 0, 0);
        run("Promise 18: BAD: i").still(BAD, "unlike", 0, -2).still(BAD, "unlike", 0, 7).add("abcdefg")
                .still(BAD, "unlike", 0, -2).still(7, "unlike", 0, -1).still('a', "unlike", 0, 0)
                .still('g', "unlike", 0, 6).still(BAD, "unlike", 0, 7).still(BAD, "unlike", 0, LEAST)
                .still(BAD, "unlike", 0, MOST).still(BAD, "unlike", 1, 7).still(BAD, "unlike", MOST, -2);
        run("Promise 18: NONE: not so many").add("abc").still('c', "unlike", 0, 2).still(NONE, "unlike", 0, 3)
                .still(NONE, "unlike", 0, 6).still(BAD, "unlike", 0, 7);
        full("Promise 18: the k-th of 40").dueWord("he", "unlike", 39).dueWord(null, "unlike", 40);
    }

    private static void next() {
        run("Promise 19: the least WORD that is more than THE WORD; NONE").dueWord(null, "next").add("ab", "ab", "abc")
                .say("").dueWord("ab", "next").say("a").dueWord("ab", "next").say("ab").dueWord("abc", "next")
                .say("abc").dueWord(null, "next").say("abb").dueWord("abc", "next").say("abca").dueWord(null, "next");
        run("Promise 19: BAD").still(BAD, "next", -2).still(BAD, "next", 7).still(NONE, "next", -1)
                .still(NONE, "next", 6).add("abcdefg").still(BAD, "next", -2).still(BAD, "next", 7).say("")
                .still(BAD, "next", -2).still(7, "next", -1).still('a', "next", 0).still('g', "next", 6)
                .still(BAD, "next", 7).still(BAD, "next", LEAST).still(BAD, "next", MOST);
        run("Promise 19: NONE: not so many").add("abc").say("").still('c', "next", 2).still(NONE, "next", 3)
                .still(NONE, "next", 6).still(BAD, "next", 7);
    }

    private static void top() {
        run("Promise 20: the k-th of TOP; NONE").dueWord(null, "top", 0).add("ab", "ac", "ac", "b").say("a")
                .dueWord("ac", "top", 0).dueWord("ab", "top", 1).dueWord(null, "top", 2).say("ab")
                .dueWord("ab", "top", 0).dueWord(null, "top", 1).say("abc").dueWord(null, "top", 0).say("")
                .dueWord("b", "top", 2).dueWord(null, "top", 3);
        run("Promise 20: BAD: k").still(BAD, "top", -1, 0).still(BAD, "top", LEAST, -1).still(NONE, "top", 0, 0)
                .add("abcdefg").still(BAD, "top", -1, 0).still('a', "top", 0, 0).still(NONE, "top", 1, 0)
                .still(NONE, "top", MOST, 0);
        run("Promise 20: BAD: i").still(BAD, "top", 0, -2).still(BAD, "top", 0, 7).add("abcdefg")
                .still(BAD, "top", 0, -2).still(7, "top", 0, -1).still('a', "top", 0, 0).still('g', "top", 0, 6)
                .still(BAD, "top", 0, 7).still(BAD, "top", 0, LEAST).still(BAD, "top", 0, MOST)
                .still(BAD, "top", 1, 7).still(BAD, "top", MOST, -2);
        run("Promise 20: NONE: not so many").add("abc").still('c', "top", 0, 2).still(NONE, "top", 0, 3)
                .still(NONE, "top", 0, 6).still(BAD, "top", 0, 7);
        full("Promise 20: the k-th of 40").say("").dueWord("he", "top", 39).dueWord(null, "top", 40).say("h")
                .dueWord("he", "top", 4).dueWord(null, "top", 5);
    }

    private static void sees() {
        run("Promise 21: BAD: i").still(BAD, "sees", -1, 'a', 0).still(BAD, "sees", 7, 'a', 1)
                .still(BAD, "sees", LEAST, 'a', 0).still(BAD, "sees", MOST, 'a', 0).due(1, "sees", 0, 'a', 0)
                .due(2, "sees", 6, 'a', 0).still(BAD, "sees", -1, 'a', 0).still(BAD, "sees", 7, 'a', 0)
                .due(2, "forget");
        run("Promise 21: BAD: the letter").still(BAD, "sees", 0, 'a' - 1, 0).still(BAD, "sees", 0, 'z' + 1, 1)
                .still(BAD, "sees", 0, 0, 0).still(BAD, "sees", 0, 'A', 0).still(BAD, "sees", 0, 'a' + 256, 0)
                .still(BAD, "sees", 0, LEAST, 0).still(BAD, "sees", 0, MOST, 0).due(1, "sees", 0, 'a', 0)
                .due(2, "sees", 0, 'z', 0).due(2, "forget");
        run("Promise 21: BAD: is").still(BAD, "sees", 0, 'a', -1).still(BAD, "sees", 0, 'a', 2)
                .still(BAD, "sees", 0, 'a', LEAST).still(BAD, "sees", 0, 'a', MOST).due(1, "sees", 0, 'a', 0)
                .due(2, "sees", 0, 'a', 1).due(2, "forget");
        Run run = run("Promise 21: FULL").add("a", "b");
        for (int n = 1; n <= 8; n++) {
            run.due(n, "sees", 0, 'z', 0);
        }
        run.still(FULL, "sees", 0, 'a', 1).still(FULL, "sees", 0, 'a', 0).still(BAD, "sees", 7, 'a', 1)
                .still(BAD, "sees", 0, 'a', 2).still(BAD, "sees", 0, 'a' - 1, 1).due(2, "fit", 0).due(8, "forget");
    }

    private static void forget() {
        Run run = run("Promise 22: how much was").still(0, "forget").add("ab", "b");
        run.due(1, "sees", 0, 'b', 1).due(1, "fit", 0).due(1, "forget").due(2, "fit", 0).still(0, "forget");
        for (int n = 1; n <= 8; n++) {
            run.due(n, "sees", 6, 'z', 1);
        }
        long before = run.call("digest");
        run.due(0, "fit", 0).due(8, "forget").due(2, "fit", 0).due(1, "sees", 6, 'z', 1).due(1, "forget")
                .due(before, "digest").due(2, "count", 11).due(1, "count", 10);
    }

    private static void fit() {
        run("Promise 23: BAD").stillOfEach(BAD, "fit", -1, 2, 3, LEAST, MOST).add("a").stillOfEach(BAD, "fit", -1, 2)
                .still(1, "fit", 0).still(0, "fit", 1);
        run("Promise 23: NONE").still(0, "fit", 0).still(NONE, "fit", 1).add("a").still(0, "fit", 1)
                .due(1, "sees", 0, 'b', 1).still(0, "fit", 0).still(NONE, "fit", 1).still(BAD, "fit", 2).add("b")
                .still(1, "fit", 0).still(1, "fit", 1);
        full("Promise 23: the first, of 40").still(40, "fit", 0).still(0, "fit", 1).due(1, "sees", 0, 'h', 1)
                .due(2, "sees", 1, 'e', 1).still(1, "fit", 0).still(39, "fit", 1);
    }

    private static void ask() {
        run("Promise 24: NONE").still(NONE, "ask").add("ab", "ab").still(NONE, "ask").add("aa").still(32, "ask")
                .due(1, "sees", 1, 'a', 1).still(NONE, "ask").due(2, "sees", 1, 'a', 0).still(NONE, "ask")
                .due(2, "forget").still(32, "ask").take("aa").still(NONE, "ask");
        full("Promise 24: of 40, eight first letters and five second ones").still(32, "ask");
    }

    private static void count() {
        Run run = withBound("Promise 25: BAD", 2).stillOfEach(BAD, "count", -1, 12, 13, LEAST, MOST)
                .add("ab", "abc", "abd").stillOfEach(BAD, "count", -1, 12);
        run.still(3, "count", 0).still(3, "count", 11);
        full("Promise 25: unlike WORDS, WORDS (as often as they are there)").due(40, "count", 0).due(40, "count", 1)
                .say("aa").addAgain(98).due(40, "count", 0).due(138, "count", 1);
        withBound("Promise 25: NODES, CONTAINERS, the most that one holds, none of them", 8).due(0, "count", 2)
                .due(0, "count", 3).due(0, "count", 4).add("a").due(0, "count", 2).due(1, "count", 3).due(1, "count", 4)
                .add("b", "c", "d", "e", "f", "g", "h").due(0, "count", 2).due(1, "count", 3).due(8, "count", 4)
                .add("i").due(1, "count", 2).due(9, "count", 3).due(1, "count", 4);
        withBound("Promise 25: the greatest DEPTH of any WORD", 2).due(0, "count", 5).add("aaaaaa", "b")
                .due(0, "count", 5).add("c").due(1, "count", 5).add("aaaaaaa", "aaaaaab").due(7, "count", 5)
                .due(7, "count", 2);
        run("Promise 25: LETTERS, none of them").due(0, "count", 6).add("abcdefg").due(7, "count", 6)
                .add("b", "c", "d").due(10, "count", 6).add("e").due(6, "count", 6);
        run("Promise 25: the most SHARED (NONE: fewer than two), by how many pairs (0)").still(NONE, "count", 7)
                .still(0, "count", 8).add("ab", "ab").still(NONE, "count", 7).still(0, "count", 8).add("b")
                .still(0, "count", 7).still(1, "count", 8).take("b").still(NONE, "count", 7).still(0, "count", 8);
        run("Promise 25: letters of THE WORD").due(0, "count", 10).say("abcdefg").due(7, "count", 10)
                .still(FULL, "type", 'h').due(7, "count", 10);
        run("Promise 25: how many may be UNDONE").due(0, "count", 11).add("a").addAgain(10).due(11, "count", 11)
                .addAgain(1).due(12, "count", 11).addAgain(1).due(12, "count", 11);
    }

    private static long digestOf(long... values) {
        long h = 17;
        for (long v : values) {
            h = 31 * h + v;
        }
        return h;
    }

    private static void digest() {
        run("Promise 26: h = 17").still(17, "digest").say("abc").still(17, "digest").due(1, "adds").due(0, "takes")
                .still(17, "digest");
        run("Promise 26: its letters, how often it is there, its DEPTH").add("b").addAgain(98)
                .still(digestOf('b', 99, 0), "digest").add("az").still(digestOf('a', 'z', 1, 0, 'b', 99, 0), "digest");
        withBound("Promise 26: of one that ENDS at a NODE, too", 2).add("ab", "abc", "abd")
                .still(digestOf('a', 'b', 1, 3, 'a', 'b', 'c', 1, 3, 'a', 'b', 'd', 1, 3), "digest");
        Run run = full("Promise 26: h = 31 h + v, with Java's wrap-around");
        long h = 17;
        for (int n = 0; n < 40; n++) {
            for (long v : new long[] {'a' + n / 5, 'a' + n % 5, 1, 2}) {
                h = 31 * h + v;
            }
        }
        run.still(h, "digest");
    }
}
