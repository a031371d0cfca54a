/** Feeds written texts, four signs to a number. */
final class Texts {
    private Texts() {
    }

    static int feed(QueueBench bench, String text) {
        int signs = bench.count(0);
        for (int from = 0; from < text.length(); from += 20) {
            signs = bench.feed(packed(text, from), packed(text, from + 4), packed(text, from + 8),
                    packed(text, from + 12), packed(text, from + 16));
        }
        return signs;
    }

    /** Feeds spaces until the text has so many signs. */
    static void fill(QueueBench bench, int signs) {
        feed(bench, " ".repeat(signs - bench.count(0)));
    }

    static int packed(String text, int from) {
        int value = 0;
        for (int k = 0; k < 4 && from + k < text.length(); k++) {
            value |= (text.charAt(from + k) & 255) << 8 * k;
        }
        return value;
    }

    static int compile(QueueBench bench, String text) {
        bench.clear();
        feed(bench, text);
        return bench.compile();
    }

    static QueueBench compiled(String text, int... inputs) {
        QueueBench bench = new QueueBench();
        for (int value : inputs) {
            bench.give(value);
        }
        int answer = compile(bench, text);
        if (answer != 0) {
            throw new AssertionError(text + " has a fault at " + (answer - 1));
        }
        return bench;
    }

    static QueueBench started(String text, int... inputs) {
        QueueBench bench = compiled(text, inputs);
        bench.start();
        return bench;
    }

    static QueueBench run(String text, int... inputs) {
        QueueBench bench = started(text, inputs);
        bench.run(1000);
        return bench;
    }
}
