import java.util.ArrayDeque;
import java.util.ArrayList;
import java.util.Deque;
import java.util.List;
import java.util.Map;
import java.util.TreeMap;
import java.util.TreeSet;

/**
 * The document read a second time, as plainly as it can be: a sorted map of words, a set of NODES, and whole copies
 * of both for undo. It shares no idea with the program (there NODES are kept as DEPTHS, and changes as differences).
 */
final class Model {
    private static final int BAD = -1, STATE = -2, FULL = -3, NONE = -9;

    private record State(TreeMap<String, Integer> words, TreeSet<String> nodes) {
    }

    private record Sight(int i, char letter, boolean is) {
    }

    private TreeMap<String, Integer> words = new TreeMap<>();
    private TreeSet<String> nodes = new TreeSet<>();
    private final Deque<State> past = new ArrayDeque<>();
    private final List<Sight> seen = new ArrayList<>();
    private String word = "";
    private int b = 4;

    int type(int letter) {
        if (letter < 'a' || letter > 'z') return BAD;
        if (word.length() == 7) return FULL;
        word += (char) letter;
        return word.length();
    }

    int clear() {
        int had = word.length();
        word = "";
        return had;
    }

    int bounds(int bound) {
        if (bound < 2 || bound > 8) return BAD;
        if (!words.isEmpty()) return STATE;
        int was = b;
        b = bound;
        past.clear();
        return was;
    }

    private void keep() {
        past.addLast(new State(new TreeMap<>(words), new TreeSet<>(nodes)));
        if (past.size() > 12) past.removeFirst();
    }

    int adds() {
        if (word.isEmpty()) return BAD;
        int before = words.getOrDefault(word, 0);
        if (before == 99 || before == 0 && words.size() == 40) return FULL;
        keep();
        words.put(word, before + 1);
        String container = containerOf(word);
        while (container != null && beginningWith(container).size() > b) {
            nodes.add(container);
            container = containerOf(word);
        }
        return before + 1;
    }

    int takes() {
        int before = words.getOrDefault(word, 0);
        if (before == 0) return STATE;
        keep();
        if (before == 1) words.remove(word);
        else words.put(word, before - 1);
        for (int n = word.length(); n >= 0; n--) {
            String beginning = word.substring(0, n);
            if (!nodes.contains(beginning)) continue;
            if (beginningWith(beginning).size() > b / 2) break;
            nodes.remove(beginning);
        }
        return before - 1;
    }

    int undo() {
        if (past.isEmpty()) return STATE;
        State state = past.removeLast();
        words = state.words();
        nodes = state.nodes();
        return past.size();
    }

    int times() {
        return words.getOrDefault(word, 0);
    }

    int rank() {
        return sum(words.headMap(word, false));
    }

    int begin() {
        return sum(beginningWith(word));
    }

    int depth() {
        return depthOf(word);
    }

    int container(int what) {
        if (what < 0 || what > 1) return BAD;
        String container = containerOf(word);
        if (container == null) return NONE;
        int held = heldBy(container).size();
        if (held == 0) return NONE;
        return what == 0 ? held : container.length();
    }

    int telling() {
        if (!words.containsKey(word)) return NONE;
        for (int n = 0; n <= word.length(); n++) {
            if (beginningWith(word.substring(0, n)).size() == 1) return n;
        }
        return word.length() + 1;
    }

    int longest() {
        for (int n = word.length(); n >= 1; n--) {
            if (words.containsKey(word.substring(0, n))) return n;
        }
        return NONE;
    }

    int like(int d) {
        if (d < 0 || d > 7) return BAD;
        int n = 0;
        for (String each : words.keySet()) {
            if (each.length() != word.length()) continue;
            int differing = 0;
            for (int i = 0; i < each.length(); i++) {
                if (each.charAt(i) != word.charAt(i)) differing++;
            }
            if (differing <= d) n++;
        }
        return n;
    }

    int odds(int what) {
        if (what < 0 || what > 1) return BAD;
        int upper = begin();
        int lower = sum(words);
        if (lower == 0) return what;
        for (int n = lower; n >= 2; n--) {
            if (upper % n == 0 && lower % n == 0) {
                upper /= n;
                lower /= n;
            }
        }
        return what == 0 ? upper : lower;
    }

    int kth(int k, int i) {
        if (k < 0 || badPlace(i)) return BAD;
        List<String> all = new ArrayList<>();
        for (Map.Entry<String, Integer> each : words.entrySet()) {
            for (int n = 0; n < each.getValue(); n++) all.add(each.getKey());
        }
        return told(all, k, i);
    }

    int unlike(int k, int i) {
        if (k < 0 || badPlace(i)) return BAD;
        return told(new ArrayList<>(words.keySet()), k, i);
    }

    int next(int i) {
        if (badPlace(i)) return BAD;
        return told(new ArrayList<>(words.tailMap(word, false).keySet()), 0, i);
    }

    int top(int k, int i) {
        if (k < 0 || badPlace(i)) return BAD;
        List<String> sorted = new ArrayList<>(beginningWith(word).keySet());
        sorted.sort((p, q) -> words.get(p).equals(words.get(q)) ? p.compareTo(q) : words.get(q) - words.get(p));
        return told(sorted, k, i);
    }

    int sees(int i, int letter, int is) {
        if (i < 0 || i > 6 || letter < 'a' || letter > 'z' || is < 0 || is > 1) return BAD;
        if (seen.size() == 8) return FULL;
        seen.add(new Sight(i, (char) letter, is == 1));
        return seen.size();
    }

    int forget() {
        int was = seen.size();
        seen.clear();
        return was;
    }

    int fit(int what) {
        if (what < 0 || what > 1) return BAD;
        List<String> fitting = fitting();
        if (what == 0) return fitting.size();
        return fitting.isEmpty() ? NONE : new ArrayList<>(words.keySet()).indexOf(fitting.get(0));
    }

    int ask() {
        List<String> fitting = fitting();
        if (fitting.size() < 2) return NONE;
        int best = Integer.MAX_VALUE;
        int answer = NONE;
        for (int i = 0; i < 7; i++) {
            for (char c = 'a'; c <= 'z'; c++) {
                int so = 0;
                for (String each : fitting) {
                    if (is(each, i, c)) so++;
                }
                int greater = Math.max(so, fitting.size() - so);
                if (greater < best) {
                    best = greater;
                    answer = 32 * i + (c - 'a');
                }
            }
        }
        return answer;
    }

    int count(int what) {
        return switch (what) {
            case 0 -> words.size();
            case 1 -> sum(words);
            case 2 -> nodes.size();
            case 3 -> containers().size();
            case 4 -> containers().stream().mapToInt(c -> heldBy(c).size()).max().orElse(0);
            case 5 -> words.keySet().stream().mapToInt(this::depthOf).max().orElse(0);
            case 6 -> lettersKept();
            case 7 -> shared().stream().mapToInt(n -> n).max().orElse(NONE);
            case 8 -> (int) shared().stream().filter(n -> n == count(7)).count();
            case 9 -> b;
            case 10 -> word.length();
            case 11 -> past.size();
            default -> BAD;
        };
    }

    long digest() {
        long h = 17;
        for (Map.Entry<String, Integer> each : words.entrySet()) {
            for (char c : each.getKey().toCharArray()) h = 31 * h + c;
            h = 31 * h + each.getValue();
            h = 31 * h + depthOf(each.getKey());
        }
        return h;
    }

    private TreeMap<String, Integer> beginningWith(String beginning) {
        TreeMap<String, Integer> found = new TreeMap<>();
        for (Map.Entry<String, Integer> each : words.entrySet()) {
            if (each.getKey().startsWith(beginning)) found.put(each.getKey(), each.getValue());
        }
        return found;
    }

    private static int sum(Map<String, Integer> some) {
        return some.values().stream().mapToInt(n -> n).sum();
    }

    /** null: the letters are a NODE. */
    private String containerOf(String letters) {
        for (int n = 0; n <= letters.length(); n++) {
            String beginning = letters.substring(0, n);
            if (!nodes.contains(beginning)) return beginning;
        }
        return null;
    }

    private List<String> heldBy(String container) {
        List<String> held = new ArrayList<>();
        for (String each : words.keySet()) {
            if (container.equals(containerOf(each))) held.add(each);
        }
        return held;
    }

    private TreeSet<String> containers() {
        TreeSet<String> all = new TreeSet<>();
        for (String each : words.keySet()) {
            String container = containerOf(each);
            if (container != null) all.add(container);
        }
        return all;
    }

    private int lettersKept() {
        int letters = 0;
        for (String container : containers()) {
            for (String each : heldBy(container)) letters += each.length() - container.length();
        }
        return letters;
    }

    private int depthOf(String letters) {
        int depth = 0;
        for (int n = 0; n <= letters.length(); n++) {
            if (nodes.contains(letters.substring(0, n))) depth++;
        }
        return depth;
    }

    private List<Integer> shared() {
        List<Integer> all = new ArrayList<>();
        String ahead = null;
        for (String each : words.keySet()) {
            if (ahead != null) {
                int n = 0;
                while (n < ahead.length() && n < each.length() && ahead.charAt(n) == each.charAt(n)) n++;
                all.add(n);
            }
            ahead = each;
        }
        return all;
    }

    private static boolean badPlace(int i) {
        return i < -1 || i > 6;
    }

    private static int told(List<String> list, int k, int i) {
        if (k >= list.size()) return NONE;
        String found = list.get(k);
        if (i == -1) return found.length();
        return i < found.length() ? found.charAt(i) : NONE;
    }

    private static boolean is(String text, int i, char c) {
        return i < text.length() && text.charAt(i) == c;
    }

    private List<String> fitting() {
        List<String> all = new ArrayList<>();
        for (String each : words.keySet()) {
            boolean fits = true;
            for (Sight sight : seen) fits &= is(each, sight.i(), sight.letter()) == sight.is();
            if (fits) all.add(each);
        }
        return all;
    }
}
