import java.util.NoSuchElementException;
import java.util.function.Consumer;

/** EXCEPTIONS: each refused call in each situation, made to one of two twins. */
final class RefusedCallsTest {
    private static final Check CHECK = new Check();
    private static final int MIN = Integer.MIN_VALUE;
    private static final int MAX = Integer.MAX_VALUE;

    public static void main(String[] args) {
        for (Situation situation : Situation.values()) {
            noSuchThing(situation);
            wrongArgument(situation);
            if (!situation.isStarted) {
                argumentAheadOfState(situation);
                notStarted(situation);
            }
            if (!situation.hasProgram) {
                noProgram(situation);
            }
        }
        fullText();
        fullInput();
        CHECK.end("RefusedCallsTest");
    }

    private static void refused(Situation situation, String call, Class<? extends RuntimeException> due,
            Consumer<QueueBench> refused) {
        CHECK.refuses(call + ", " + situation, due, situation::make, refused);
    }

    private static void noSuchThing(Situation situation) {
        CHECK.sentence("NoSuchElementException: there is no such output, name, cell or step. "
                + "Such a call changes nothing. " + situation);
        for (int k : new int[] {-1, MIN, MAX}) {
            refused(situation, "output(" + k + ")", NoSuchElementException.class, x -> x.output(k));
        }
        for (int k : new int[] {-1, 26, 'a', MIN, MAX}) {
            refused(situation, "name(" + k + ")", NoSuchElementException.class, x -> x.name(k));
        }
        for (int k : new int[] {-1, 100, MIN, MAX}) {
            refused(situation, "cell(" + k + ")", NoSuchElementException.class, x -> x.cell(k));
        }
        for (int place : new int[] {-1, 1, 2999, 3000, MIN, MAX}) {
            refused(situation, "terms(" + place + ")", NoSuchElementException.class, x -> x.terms(place));
        }
        if (situation.isStarted) {
            refused(situation, "output(state(2))", NoSuchElementException.class, x -> x.output(x.state(2)));
            refused(situation, "output(state(2) - 201)", NoSuchElementException.class,
                    x -> x.output(x.state(2) - 201));
        }
    }

    private static void wrongArgument(Situation situation) {
        CHECK.sentence("IllegalArgumentException, as told. Such a call changes nothing. " + situation);
        for (int n : new int[] {-1, 1001, MIN, MAX}) {
            refused(situation, "run(" + n + ")", IllegalArgumentException.class, x -> x.run(n));
        }
        for (int what : new int[] {-1, 5, MIN, MAX}) {
            refused(situation, "state(" + what + ")", IllegalArgumentException.class, x -> x.state(what));
        }
        for (int what : new int[] {-1, 4, MIN, MAX}) {
            refused(situation, "count(" + what + ")", IllegalArgumentException.class, x -> x.count(what));
        }
    }

    private static void argumentAheadOfState(Situation situation) {
        CHECK.sentence("IllegalArgumentException, then IllegalStateException. " + situation);
        QueueBench bench = situation.make();
        CHECK.refuses("run(-1)", IllegalArgumentException.class, () -> bench.run(-1));
        CHECK.refuses("run(1001)", IllegalArgumentException.class, () -> bench.run(1001));
        CHECK.refuses("run(1000)", IllegalStateException.class, () -> bench.run(1000));
        CHECK.refuses("state(-1)", IllegalArgumentException.class, () -> bench.state(-1));
        CHECK.refuses("state(5)", IllegalArgumentException.class, () -> bench.state(5));
        CHECK.refuses("state(4)", IllegalStateException.class, () -> bench.state(4));
    }

    private static void notStarted(Situation situation) {
        CHECK.sentence("IllegalStateException or NoSuchElementException: no program was started. "
                + "Such a call changes nothing. " + situation);
        for (int n : new int[] {0, 1, 1000}) {
            refused(situation, "run(" + n + ")", IllegalStateException.class, x -> x.run(n));
        }
        for (int what : new int[] {0, 1, 2, 3, 4}) {
            refused(situation, "state(" + what + ")", IllegalStateException.class, x -> x.state(what));
        }
        refused(situation, "output(0)", NoSuchElementException.class, x -> x.output(0));
        for (int k : new int[] {0, 25}) {
            refused(situation, "name(" + k + ")", NoSuchElementException.class, x -> x.name(k));
        }
        for (int k : new int[] {0, 99}) {
            refused(situation, "cell(" + k + ")", NoSuchElementException.class, x -> x.cell(k));
        }
    }

    private static void noProgram(Situation situation) {
        CHECK.sentence("IllegalStateException or NoSuchElementException: there is no program. "
                + "Such a call changes nothing. " + situation);
        refused(situation, "start()", IllegalStateException.class, QueueBench::start);
        for (int place : new int[] {0, 2, 14}) {
            refused(situation, "terms(" + place + ")", NoSuchElementException.class, x -> x.terms(place));
        }
    }

    private static void fullText() {
        CHECK.sentence("IllegalStateException: there would be more than 3000. Such a call changes nothing.");
        Situation full = Situation.WITH_FULL_TEXT;
        refused(full, "feed of one sign in a", IllegalStateException.class, x -> x.feed(';', 0, 0, 0, 0));
        refused(full, "feed of one sign in e", IllegalStateException.class, x -> x.feed(0, 0, 0, 0, ';' << 24));
        refused(full, "feed of twenty signs", IllegalStateException.class, x -> x.feed(-1, -1, -1, -1, -1));
    }

    private static void fullInput() {
        CHECK.sentence("IllegalStateException: there are 300. Such a call changes nothing.");
        for (int v : new int[] {0, 1, MIN, MAX}) {
            refused(Situation.WITH_FULL_INPUT, "give(" + v + ")", IllegalStateException.class, x -> x.give(v));
        }
    }
}
