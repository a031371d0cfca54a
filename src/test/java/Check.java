import java.util.List;
import java.util.function.Consumer;
import java.util.function.Supplier;

/** Counts and prints the answers that are not as due, each under the sentence that asks for it. */
final class Check {
    private String sentence = "";
    private int looksAtSentence;
    private int sentences;
    private int looks;
    private int wrong;

    /** What is looked at from now on belongs to this sentence of the document. */
    void sentence(String quoted) {
        endSentence();
        sentence = quoted;
        sentences++;
    }

    private void endSentence() {
        if (!sentence.isEmpty() && looksAtSentence == 0) {
            report("nothing was looked at");
        }
        looksAtSentence = 0;
    }

    void due(String what, long got, long want) {
        look();
        if (got != want) {
            report(what + " answered " + got + ", due is " + want);
        }
    }

    void refuses(String what, Class<? extends RuntimeException> due, Runnable call) {
        look();
        String got = nameOfThrown(call);
        if (!got.equals(due.getName())) {
            report(what + " threw " + got + ", due is " + due.getName());
        }
    }

    /** The call is refused, and a twin to which it was not made answers the same ever after. */
    void refuses(String what, Class<? extends RuntimeException> due, Supplier<QueueBench> maker,
            Consumer<QueueBench> call) {
        QueueBench bench = maker.get();
        QueueBench twin = maker.get();
        refuses(what, due, () -> call.accept(bench));
        sameStory("behind the refused " + what, Story.of(bench), Story.of(twin));
    }

    /** The call answers, and a twin to which it was not made answers the same ever after. */
    void keeps(String what, Supplier<QueueBench> maker, Consumer<QueueBench> call) {
        QueueBench bench = maker.get();
        QueueBench twin = maker.get();
        call.accept(bench);
        sameStory("behind " + what, Story.of(bench), Story.of(twin));
    }

    /** The call changes what can be seen of the object in this one answer alone. */
    void keepsAllBut(String count, String what, QueueBench bench, Consumer<QueueBench> call) {
        List<String> before = Story.atOnce(bench);
        call.accept(bench);
        List<String> behind = Story.atOnce(bench);
        before.removeIf(row -> row.startsWith(count));
        behind.removeIf(row -> row.startsWith(count));
        sameStory("behind " + what, behind, before);
    }

    private void sameStory(String what, List<String> got, List<String> want) {
        for (int k = 0; k < want.size(); k++) {
            look();
            if (!got.get(k).equals(want.get(k))) {
                report(what + " came " + got.get(k) + ", due is " + want.get(k));
            }
        }
    }

    private void look() {
        looks++;
        looksAtSentence++;
    }

    private void report(String what) {
        wrong++;
        System.out.println("\"" + sentence + "\": " + what);
    }

    private static String nameOfThrown(Runnable call) {
        try {
            call.run();
            return "nothing";
        } catch (RuntimeException e) {
            return e.getClass().getName();
        }
    }

    void end(String title) {
        endSentence();
        System.out.println(title + ": " + sentences + " sentences, " + looks + " answers, " + wrong + " not as due");
        if (wrong != 0) {
            System.exit(1);
        }
    }
}
