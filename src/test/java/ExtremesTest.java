/** Every call with every mix of odd numbers, in an empty, a small and a full state: as the model answers, no throw. */
public final class ExtremesTest {
    private static final int[] ODD = {Integer.MIN_VALUE, Integer.MIN_VALUE + 1, -1000, -9, -2, -1, 0, 1, 2, 6, 7, 8, 9,
        11, 12, 39, 40, 41, 96, 97, 122, 123, 255, 353, 65633, Integer.MAX_VALUE - 1, Integer.MAX_VALUE};

    private final Checks checks;
    private final BurstWords x = new BurstWords();
    private final Model m = new Model();

    private ExtremesTest(Checks checks) {
        this.checks = checks;
    }

    public static void main(String[] args) {
        Checks checks = new Checks();
        for (int words : new int[] {0, 1, 5, 40}) {
            for (int a : ODD) {
                for (int b : ODD) {
                    // An object each, for none is promised more than 512 calls.
                    ExtremesTest test = new ExtremesTest(checks);
                    test.fill(words);
                    test.ofOne(a);
                    test.ofTwo(a, b);
                    test.without();
                }
            }
        }
        checks.finish();
    }

    private void fill(int words) {
        x.bounds(2);
        m.bounds(2);
        for (int n = 0; n < words; n++) {
            x.clear();
            m.clear();
            for (int i = 0; i <= n % 7; i++) {
                int letter = 'a' + (n >> i & 1) * 25;
                x.type(letter);
                m.type(letter);
            }
            x.adds();
            m.adds();
        }
    }

    private void same(String call, long got, long want) {
        checks.due(call, got, want);
    }

    private void ofOne(int a) {
        String with = "(" + a + ")";
        same("bounds" + with, x.bounds(a), m.bounds(a));
        same("container" + with, x.container(a), m.container(a));
        same("like" + with, x.like(a), m.like(a));
        same("odds" + with, x.odds(a), m.odds(a));
        same("next" + with, x.next(a), m.next(a));
        same("fit" + with, x.fit(a), m.fit(a));
        same("count" + with, x.count(a), m.count(a));
        same("type" + with, x.type(a), m.type(a));
    }

    private void ofTwo(int a, int b) {
        String with = "(" + a + ", " + b + ")";
        same("kth" + with, x.kth(a, b), m.kth(a, b));
        same("unlike" + with, x.unlike(a, b), m.unlike(a, b));
        same("top" + with, x.top(a, b), m.top(a, b));
        for (int is = -1; is <= 2; is++) {
            same("sees" + with, x.sees(a, b, is), m.sees(a, b, is));
        }
        same("sees" + with, x.sees(a, 'a', b), m.sees(a, 'a', b));
        same("sees" + with, x.sees(0, a, b), m.sees(0, a, b));
    }

    private void without() {
        same("fit(0)", x.fit(0), m.fit(0));
        same("ask()", x.ask(), m.ask());
        same("forget()", x.forget(), m.forget());
        same("ask()", x.ask(), m.ask());
        same("adds()", x.adds(), m.adds());
        same("takes()", x.takes(), m.takes());
        same("takes()", x.takes(), m.takes());
        same("times()", x.times(), m.times());
        same("rank()", x.rank(), m.rank());
        same("begin()", x.begin(), m.begin());
        same("depth()", x.depth(), m.depth());
        same("telling()", x.telling(), m.telling());
        same("longest()", x.longest(), m.longest());
        for (int n = 0; n < 14; n++) {
            same("undo()", x.undo(), m.undo());
            same("digest()", x.digest(), m.digest());
        }
        same("clear()", x.clear(), m.clear());
    }
}
