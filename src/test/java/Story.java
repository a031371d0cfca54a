import java.util.ArrayList;
import java.util.List;
import java.util.function.IntSupplier;

/**
 * What an object answers from now on, call by call: all that can be seen at once, and what comes of
 * running on, of starting again and of compiling the text again. Some 170 calls, so that an object whose
 * input was filled up does not come to its 513th call.
 */
final class Story {
    private final QueueBench bench;
    private final List<String> rows = new ArrayList<>();

    private Story(QueueBench bench) {
        this.bench = bench;
    }

    static List<String> of(QueueBench bench) {
        Story story = new Story(bench);
        story.lookAtAll();
        story.goOn();
        return story.rows;
    }

    /** What can be seen without changing anything. */
    static List<String> atOnce(QueueBench bench) {
        Story story = new Story(bench);
        story.lookAtAll();
        return story.rows;
    }

    private void goOn() {
        tellRun(1);
        tellRun(1000);
        tellStart();
        tellRun(1000);
        // Behind that, since a give that is refused could spoil the input of both twins alike.
        tell("give(1000)", () -> bench.give(1000));
        tellRun(1000);
        tell("compile()", bench::compile);
        tell("state(0) ahead of start()", () -> bench.state(0));
        tellStart();
        tellRun(1000);
        tell("feed of one sign", () -> bench.feed(0, 0, ';', 0, 0));
        tell("clear()", bench::clear);
    }

    private void tellRun(int n) {
        tell("run(" + n + ")", () -> bench.run(n));
        lookAtSome();
    }

    private void tellStart() {
        tell("start()", () -> {
            bench.start();
            return 0;
        });
        lookAtSome();
    }

    private void lookAtAll() {
        lookAtNumbers();
        for (int k = 0; k < 26; k++) {
            lookAtName(k);
        }
        for (int k : new int[] {0, 1, 2, 9, 50, 98, 99}) {
            lookAtCell(k);
        }
        for (int back : new int[] {1, 2, 199, 200, 201}) {
            lookAtOutput(back);
        }
        for (int place : new int[] {0, 2, 5, 14}) {
            tell("terms(" + place + ")", () -> bench.terms(place));
        }
    }

    private void lookAtSome() {
        lookAtNumbers();
        lookAtName(0);
        lookAtName(1);
        lookAtCell(3);
        lookAtOutput(1);
    }

    private void lookAtNumbers() {
        for (int k = 0; k < 4; k++) {
            int what = k;
            tell("count(" + what + ")", () -> bench.count(what));
        }
        for (int k = 0; k < 5; k++) {
            int what = k;
            tell("state(" + what + ")", () -> bench.state(what));
        }
    }

    private void lookAtName(int k) {
        tell("name(" + k + ")", () -> bench.name(k));
    }

    private void lookAtCell(int k) {
        tell("cell(" + k + ")", () -> bench.cell(k));
    }

    private void lookAtOutput(int back) {
        tell("output " + back + " from the end", () -> bench.output(bench.state(2) - back));
    }

    private void tell(String call, IntSupplier answer) {
        rows.add(call + " -> " + answered(answer));
    }

    private static String answered(IntSupplier call) {
        try {
            return String.valueOf(call.getAsInt());
        } catch (RuntimeException e) {
            return e.getClass().getName();
        }
    }
}
