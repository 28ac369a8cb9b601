import java.util.ArrayList;
import java.util.List;

/** A run of calls on a new object, for one sentence of the document; it is kept, so that it can be played again. */
final class Run {
    private static final int MOST_CALLS = 512;

    private final Checks checks;
    private final String sentence;
    private final List<Call> calls = new ArrayList<>();
    private final BurstWords x = new BurstWords();

    Run(Checks checks, String sentence) {
        this.checks = checks;
        this.sentence = sentence;
    }

    /** One call, whose answer is not looked at here. */
    long call(String name, int... numbers) {
        Call call = new Call(name, numbers);
        calls.add(call);
        if (calls.size() > MOST_CALLS) {
            throw new IllegalStateException(sentence + ": more calls than the document promises");
        }
        return call.on(x);
    }

    /** One call and its answer. */
    Run due(long want, String name, int... numbers) {
        checks.due(label(new Call(name, numbers)), call(name, numbers), want);
        return this;
    }

    /** One call and its answer, and nothing changes by it. */
    Run still(long want, String name, int... numbers) {
        BurstWords with = played();
        BurstWords without = played();
        Call call = new Call(name, numbers);
        due(want, name, numbers);
        call.on(with);
        List<String> after = Picture.of(with);
        List<String> before = Picture.of(without);
        if (calls.size() + after.size() > MOST_CALLS) {
            throw new IllegalStateException(sentence + ": the picture takes more calls than the document promises");
        }
        for (int n = 0; n < Math.min(before.size(), after.size()); n++) {
            checks.holds(label(call) + " changes nothing; ahead of it " + before.get(n) + ", behind it " + after.get(n),
                    before.get(n).equals(after.get(n)));
        }
        checks.due(label(call) + " changes nothing: as much to see", after.size(), before.size());
        return this;
    }

    /** One call with each of these numbers, refused as told, and nothing changes by it. */
    Run stillOfEach(long want, String name, int... each) {
        for (int number : each) {
            still(want, name, number);
        }
        return this;
    }

    Run say(String word) {
        call("clear");
        for (int i = 0; i < word.length(); i++) {
            call("type", word.charAt(i));
        }
        return this;
    }

    Run add(String... words) {
        for (String word : words) {
            say(word).call("adds");
        }
        return this;
    }

    Run take(String... words) {
        for (String word : words) {
            say(word).call("takes");
        }
        return this;
    }

    /** THE WORD, so many times more. */
    Run addAgain(int times) {
        for (int n = 0; n < times; n++) {
            call("adds");
        }
        return this;
    }

    /** Asks for a word by all its letters; null: NONE. */
    Run dueWord(String want, String name, int... k) {
        for (int i = -1; i <= 6; i++) {
            int[] numbers = k.length == 0 ? new int[] {i} : new int[] {k[0], i};
            due(letter(want, i), name, numbers);
        }
        return this;
    }

    private static int letter(String word, int i) {
        if (word == null) {
            return BurstWords.NONE;
        }
        if (i == -1) {
            return word.length();
        }
        return i < word.length() ? word.charAt(i) : BurstWords.NONE;
    }

    int used() {
        return calls.size();
    }

    private BurstWords played() {
        BurstWords again = new BurstWords();
        for (Call call : calls) {
            call.on(again);
        }
        return again;
    }

    private String label(Call call) {
        return "'" + sentence + "', call " + calls.size() + ", " + call;
    }
}
