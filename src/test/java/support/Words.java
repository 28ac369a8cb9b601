/** Short ways to bring an object into a state. */
final class Words {
    private Words() {
    }

    static void say(BurstWords x, String word) {
        x.clear();
        for (int i = 0; i < word.length(); i++) {
            x.type(word.charAt(i));
        }
    }

    static int add(BurstWords x, String word) {
        say(x, word);
        return x.adds();
    }

    static int take(BurstWords x, String word) {
        say(x, word);
        return x.takes();
    }

    /** An object with B and these words; THE WORD is empty. */
    static BurstWords of(int b, String... words) {
        BurstWords x = new BurstWords();
        x.bounds(b);
        for (String word : words) {
            add(x, word);
        }
        x.clear();
        return x;
    }
}
