import java.util.ArrayList;
import java.util.List;

/** All that an object lets be seen of itself: two objects of one picture are in the same state. */
final class Picture {
    private final BurstWords x;
    private final List<String> rows = new ArrayList<>();

    private Picture(BurstWords x) {
        this.x = x;
    }

    /** The object is used up by it, for what can be undone is seen by undoing it. */
    static List<String> of(BurstWords x) {
        Picture picture = new Picture(x);
        picture.questions();
        picture.past();
        picture.ask("forget");
        picture.theWord();
        return picture.rows;
    }

    private long ask(String name, int... numbers) {
        Call call = new Call(name, numbers);
        long answer = call.on(x);
        rows.add(call + " = " + answer);
        return answer;
    }

    private void questions() {
        for (int what = 0; what <= 11; what++) {
            ask("count", what);
        }
        ask("digest");
        ask("times");
        ask("rank");
        ask("begin");
        ask("depth");
        ask("longest");
        ask("telling");
        for (int what = 0; what <= 1; what++) {
            ask("container", what);
            ask("odds", what);
            ask("fit", what);
        }
        ask("ask");
    }

    private void past() {
        for (int n = 0; n < 13 && ask("undo") >= 0; n++) {
            ask("count", 2);
            ask("digest");
        }
    }

    /** The word of its own rank is THE WORD itself, once it has been added. */
    private void theWord() {
        ask("adds");
        int rank = (int) ask("rank");
        for (int i = -1; i <= 6; i++) {
            ask("kth", rank, i);
        }
    }
}
