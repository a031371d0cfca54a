import java.util.NoSuchElementException;

/** Promise 10: name. */
final class NameTest {
    private static final Check CHECK = new Check();

    public static void main(String[] args) {
        whatANameHas();
        greatAndSmallValues();
        noSuchName();
        notStarted();
        CHECK.end("NameTest");
    }

    private static QueueBench withAllNames(int steps) {
        StringBuilder text = new StringBuilder();
        for (int k = 0; k < 26; k++) {
            text.append((char) ('a' + k)).append("=-").append(100 + k).append(';');
        }
        QueueBench bench = Texts.started(text.toString());
        bench.run(steps);
        return bench;
    }

    private static void whatANameHas() {
        CHECK.sentence("What name k (0: a) has");
        for (int steps : new int[] {0, 1, 13, 25, 26}) {
            QueueBench bench = withAllNames(steps);
            for (int k = 0; k < 26; k++) {
                CHECK.due("name(" + k + ") behind " + steps, bench.name(k), k < steps ? -100 - k : 0);
            }
        }
    }

    private static void greatAndSmallValues() {
        CHECK.sentence("What name k has (the greatest and the least)");
        QueueBench bench = Texts.run("a=2147483647;b=a+1;z=-a;a=a;@0=5;");
        CHECK.due("name(0)", bench.name(0), Integer.MAX_VALUE);
        CHECK.due("name(1)", bench.name(1), Integer.MIN_VALUE);
        CHECK.due("name(25)", bench.name(25), -Integer.MAX_VALUE);
        bench.clear();
        CHECK.due("name(0) behind clear()", bench.name(0), Integer.MAX_VALUE);
    }

    private static void noSuchName() {
        CHECK.sentence("NoSuchElementException: there is no such name");
        for (int k : new int[] {-1, 26, 27, 'a', 'z', Integer.MIN_VALUE, Integer.MAX_VALUE}) {
            CHECK.refuses("name(" + k + ")", NoSuchElementException.class, () -> withAllNames(20), x -> x.name(k));
        }
    }

    private static void notStarted() {
        CHECK.sentence("also, if no program was started");
        for (int k : new int[] {-1, 0, 25, 26}) {
            CHECK.refuses("name(" + k + ") of a new object", NoSuchElementException.class, QueueBench::new,
                    x -> x.name(k));
            CHECK.refuses("name(" + k + ") ahead of start()", NoSuchElementException.class, Situation.COMPILED::make,
                    x -> x.name(k));
            CHECK.refuses("name(" + k + ") behind compile()", NoSuchElementException.class,
                    Situation.COMPILED_AGAIN::make, x -> x.name(k));
            CHECK.refuses("name(" + k + ") behind a fault", NoSuchElementException.class,
                    Situation.BEHIND_A_FAULT::make, x -> x.name(k));
        }
    }
}
