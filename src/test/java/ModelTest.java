/** Runs of up to 512 calls, made by a fixed rule, on the program and on the model: every answer must be the same. */
public final class ModelTest {
    private static final int RUNS = 1500;
    private static final int CALLS = 512;
    private static final int LONGEST_STEP = 14;
    private static final String[] LETTERS = {"ab", "abc", "az", "abcdefghijklmnopqrstuvwxyz", "a", "abcd"};

    private final int run;
    private final BurstWords x = new BurstWords();
    private final Model m = new Model();
    private final String letters;
    private final boolean deep;
    private final int wanted;
    private final int taking;
    private long dice;
    private int used = 0;
    private int wrong = 0;

    private ModelTest(int run) {
        this.run = run;
        this.dice = 7919L * run + 1;
        this.letters = LETTERS[run % LETTERS.length];
        // Long words in small containers make more nodes than others.
        this.deep = run % 5 == 0;
        this.wanted = deep ? 7 : 1 + throwDice(7);
        this.taking = throwDice(4);
    }

    public static void main(String[] args) {
        int[] most = new int[3];
        Checks all = new Checks();
        for (int run = 1; run <= RUNS; run++) {
            ModelTest test = new ModelTest(run);
            all.due("wrong answers of run " + run, test.play(most), 0);
        }
        // The runs must reach the limits, or they tell nothing of them.
        all.due("the most unlike words of a run", most[0], 40);
        all.holds("some run has more than twenty nodes", most[1] > 20);
        all.due("the most that could be undone", most[2], 12);
        all.finish();
    }

    private int throwDice(int sides) {
        dice = dice * 6364136223846793005L + 1442695040888963407L;
        return (int) ((dice >>> 33) % sides);
    }

    private int play(int[] most) {
        if (throwDice(4) != 0) {
            int b = deep ? 2 : 2 + throwDice(7);
            same("bounds(" + b + ")", x.bounds(b), m.bounds(b));
            used++;
        }
        while (used <= CALLS - LONGEST_STEP) {
            step();
            most[0] = Math.max(most[0], m.count(0));
            most[1] = Math.max(most[1], m.count(2));
            most[2] = Math.max(most[2], m.count(11));
        }
        return wrong;
    }

    private void same(String call, long got, long want) {
        if (got != want) {
            wrong++;
            if (wrong <= 5) {
                System.out.println("run " + run + ", call " + used + ": " + call + " answered " + got
                        + ", due is " + want);
            }
        }
    }

    private void step() {
        int what = throwDice(20);
        if (what < 9) {
            spell();
            change();
        } else if (what < 11) {
            change();
        } else if (what == 11) {
            used++;
            same("undo()", x.undo(), m.undo());
        } else if (what == 12) {
            spell();
        } else {
            look();
        }
    }

    private void spell() {
        same("clear()", x.clear(), m.clear());
        used++;
        int length = deep ? wanted : 1 + throwDice(wanted);
        for (int i = 0; i < length; i++) {
            // Mostly the first letter, so that words share long beginnings.
            int letter = throwDice(3) == 0 ? letters.charAt(0) : letters.charAt(throwDice(letters.length()));
            same("type(" + letter + ")", x.type(letter), m.type(letter));
            used++;
        }
    }

    private void change() {
        used++;
        if (throwDice(4) < taking && throwDice(2) == 0) {
            same("takes()", x.takes(), m.takes());
        } else {
            same("adds()", x.adds(), m.adds());
        }
    }

    private void look() {
        used++;
        int k = throwDice(12) - 1;
        int i = throwDice(10) - 2;
        int half = throwDice(10) == 0 ? throwDice(4) - 1 : throwDice(2);
        switch (throwDice(23)) {
            case 0 -> same("times()", x.times(), m.times());
            case 1 -> same("rank()", x.rank(), m.rank());
            case 2 -> same("begin()", x.begin(), m.begin());
            case 3 -> same("depth()", x.depth(), m.depth());
            case 4 -> same("container(" + half + ")", x.container(half), m.container(half));
            case 5 -> same("container(0)", x.container(0), m.container(0));
            case 6 -> same("telling()", x.telling(), m.telling());
            case 7 -> same("longest()", x.longest(), m.longest());
            case 8 -> same("like(" + k + ")", x.like(k), m.like(k));
            case 9 -> same("odds(" + half + ")", x.odds(half), m.odds(half));
            case 10 -> same("kth(" + 4 * k + ", " + i + ")", x.kth(4 * k, i), m.kth(4 * k, i));
            case 11 -> same("unlike(" + 3 * k + ", " + i + ")", x.unlike(3 * k, i), m.unlike(3 * k, i));
            case 12 -> same("next(" + i + ")", x.next(i), m.next(i));
            case 13 -> same("top(" + k + ", " + i + ")", x.top(k, i), m.top(k, i));
            case 14, 15 -> see(i);
            case 16 -> same("forget()", x.forget(), m.forget());
            case 17 -> same("fit(" + half + ")", x.fit(half), m.fit(half));
            case 18 -> same("ask()", x.ask(), m.ask());
            case 19 -> same("digest()", x.digest(), m.digest());
            case 20 -> same("bounds(" + k + ")", x.bounds(k), m.bounds(k));
            case 21 -> typeAny();
            default -> countAll();
        }
    }

    private void see(int i) {
        int letter = throwDice(8) == 0 ? anySign() : letters.charAt(throwDice(letters.length()));
        int is = throwDice(8) == 0 ? throwDice(4) - 1 : throwDice(5) < 2 ? 1 : 0;
        same("sees(" + i + ", " + letter + ", " + is + ")", x.sees(i, letter, is), m.sees(i, letter, is));
    }

    /** A letter or one of the signs beside them. */
    private int anySign() {
        return 'a' - 1 + throwDice(28);
    }

    private void typeAny() {
        int sign = anySign();
        same("type(" + sign + ")", x.type(sign), m.type(sign));
    }

    private void countAll() {
        for (int what = -1; what <= 12; what++) {
            same("count(" + what + ")", x.count(what), m.count(what));
        }
        used += 13;
    }
}
