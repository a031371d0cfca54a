import java.util.NoSuchElementException;

/** Promise 9: output. */
final class OutputTest {
    private static final Check CHECK = new Check();

    public static void main(String[] args) {
        valuesFromZeroOn();
        noSuchOutput();
        all200AreKept();
        notKeptAnyMore();
        notStarted();
        CHECK.end("OutputTest");
    }

    private static void valuesFromZeroOn() {
        CHECK.sentence("The k-th value that was put out (from 0)");
        QueueBench bench = Texts.started("!-1;!2147483647+1;!0;!2147483647;");
        bench.run(2);
        CHECK.due("output(0)", bench.output(0), -1);
        CHECK.due("output(1)", bench.output(1), Integer.MIN_VALUE);
        bench.run(2);
        CHECK.due("output(0)", bench.output(0), -1);
        CHECK.due("output(2)", bench.output(2), 0);
        CHECK.due("output(3)", bench.output(3), Integer.MAX_VALUE);
        bench.clear();
        CHECK.due("output(3) behind clear()", bench.output(3), Integer.MAX_VALUE);
    }

    private static QueueBench withTwo() {
        QueueBench bench = Texts.started("!5;!6;a=1;!7;", 1);
        bench.run(3);
        return bench;
    }

    private static void noSuchOutput() {
        CHECK.sentence("NoSuchElementException: there is no such output");
        for (int k : new int[] {-1, 2, 3, 199, 200, Integer.MIN_VALUE, Integer.MAX_VALUE}) {
            CHECK.refuses("output(" + k + ")", NoSuchElementException.class, OutputTest::withTwo, x -> x.output(k));
        }
        CHECK.refuses("output(0) when nothing was put out", NoSuchElementException.class,
                () -> Texts.started("!5;"), x -> x.output(0));
        CHECK.refuses("output(0) behind trouble", NoSuchElementException.class,
                () -> Texts.run("!5/0;"), x -> x.output(0));
        CHECK.refuses("output(0) of no step", NoSuchElementException.class, () -> Texts.started(""),
                x -> x.output(0));
    }

    private static QueueBench with(int outputs) {
        QueueBench bench = Texts.started("*1{!a*3-1;a=a+1;}");
        int steps = 3 * outputs;
        while (steps > 0) {
            steps -= bench.run(Math.min(steps, 999));
        }
        return bench;
    }

    private static void all200AreKept() {
        CHECK.sentence("the latest 200 are kept");
        for (int total : new int[] {1, 199, 200, 201, 399, 400, 401, 5000}) {
            QueueBench bench = with(total);
            CHECK.due("state(2)", bench.state(2), total);
            for (int k = Math.max(0, total - 200); k < total; k++) {
                CHECK.due("output(" + k + ") of " + total, bench.output(k), 3 * k - 1);
            }
        }
    }

    private static void notKeptAnyMore() {
        CHECK.sentence("also, if it is not kept any more");
        CHECK.due("output(0) of 200", with(200).output(0), -1);
        CHECK.refuses("output(0) of 201", NoSuchElementException.class, () -> with(201), x -> x.output(0));
        CHECK.refuses("output(0) of 202", NoSuchElementException.class, () -> with(202), x -> x.output(0));
        CHECK.refuses("output(1) of 202", NoSuchElementException.class, () -> with(202), x -> x.output(1));
        CHECK.refuses("output(199) of 400", NoSuchElementException.class, () -> with(400), x -> x.output(199));
        CHECK.refuses("output(0) of 400", NoSuchElementException.class, () -> with(400), x -> x.output(0));
        CHECK.refuses("output(333) of 534", NoSuchElementException.class, () -> with(534), x -> x.output(333));
        CHECK.refuses("output(534) of 534", NoSuchElementException.class, () -> with(534), x -> x.output(534));
    }

    private static void notStarted() {
        CHECK.sentence("or no program was started");
        for (int k : new int[] {-1, 0, 1}) {
            CHECK.refuses("output(" + k + ") of a new object", NoSuchElementException.class, QueueBench::new,
                    x -> x.output(k));
            CHECK.refuses("output(" + k + ") ahead of start()", NoSuchElementException.class,
                    Situation.COMPILED::make, x -> x.output(k));
            CHECK.refuses("output(" + k + ") behind compile()", NoSuchElementException.class,
                    Situation.COMPILED_AGAIN::make, x -> x.output(k));
            CHECK.refuses("output(" + k + ") behind a fault", NoSuchElementException.class,
                    Situation.BEHIND_A_FAULT::make, x -> x.output(k));
        }
    }
}
