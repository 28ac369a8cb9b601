/** One call by its name and numbers, so that a run of calls can be kept and played again. */
record Call(String name, int... numbers) {
    long on(BurstWords x) {
        return switch (name) {
            case "type" -> x.type(numbers[0]);
            case "clear" -> x.clear();
            case "bounds" -> x.bounds(numbers[0]);
            case "adds" -> x.adds();
            case "takes" -> x.takes();
            case "undo" -> x.undo();
            case "times" -> x.times();
            case "rank" -> x.rank();
            case "begin" -> x.begin();
            case "depth" -> x.depth();
            case "container" -> x.container(numbers[0]);
            case "telling" -> x.telling();
            case "longest" -> x.longest();
            case "like" -> x.like(numbers[0]);
            case "odds" -> x.odds(numbers[0]);
            case "kth" -> x.kth(numbers[0], numbers[1]);
            case "unlike" -> x.unlike(numbers[0], numbers[1]);
            case "next" -> x.next(numbers[0]);
            case "top" -> x.top(numbers[0], numbers[1]);
            case "sees" -> x.sees(numbers[0], numbers[1], numbers[2]);
            case "forget" -> x.forget();
            case "fit" -> x.fit(numbers[0]);
            case "ask" -> x.ask();
            case "count" -> x.count(numbers[0]);
            case "digest" -> x.digest();
            default -> throw new IllegalArgumentException(name);
        };
    }

    @Override
    public String toString() {
        StringBuilder text = new StringBuilder(name).append('(');
        for (int n = 0; n < numbers.length; n++) {
            text.append(n == 0 ? "" : ", ").append(numbers[n]);
        }
        return text.append(')').toString();
    }
}
