import java.util.NoSuchElementException;

/** Promise 6: start. */
final class StartTest {
    private static final Check CHECK = new Check();

    public static void main(String[] args) {
        atItsBeginning();
        allValuesAreZero();
        nothingIsPutOut();
        noInputIsRead();
        givenValuesStay();
        fromInsideACall();
        behindTrouble();
        withoutSteps();
        withoutProgram();
        CHECK.end("StartTest");
    }

    private static QueueBench startedAgain() {
        QueueBench bench = Texts.started("a=#;z=2;@0=3;@99=4;!a;!5;", 6, 7);
        CHECK.due("run(9)", bench.run(9), 6);
        bench.start();
        return bench;
    }

    private static void atItsBeginning() {
        CHECK.sentence("The program is at its beginning");
        QueueBench bench = startedAgain();
        CHECK.due("state(0)", bench.state(0), 0);
        CHECK.due("state(1)", bench.state(1), 0);
        CHECK.due("state(4)", bench.state(4), 0);
        CHECK.due("run(9)", bench.run(9), 6);
        QueueBench other = Texts.started("A{!1;}\n !2;!3;");
        CHECK.due("state(4) behind a definition", other.state(4), 8);
        other.run(1);
        other.start();
        other.start();
        CHECK.due("state(4) when started again", other.state(4), 8);
        CHECK.due("state(1) when started again", other.state(1), 0);
    }

    private static void allValuesAreZero() {
        CHECK.sentence("all values 0");
        QueueBench bench = startedAgain();
        for (int k = 0; k < 26; k++) {
            CHECK.due("name(" + k + ")", bench.name(k), 0);
        }
        for (int k = 0; k < 100; k++) {
            CHECK.due("cell(" + k + ")", bench.cell(k), 0);
        }
        QueueBench full = Texts.run("*a<100{@a=a+1;a=a+1;}");
        full.start();
        for (int k = 0; k < 100; k++) {
            CHECK.due("cell(" + k + ") when all had values", full.cell(k), 0);
        }
    }

    private static void nothingIsPutOut() {
        CHECK.sentence("nothing put out");
        QueueBench bench = startedAgain();
        CHECK.due("state(2)", bench.state(2), 0);
        CHECK.refuses("output(0)", NoSuchElementException.class, StartTest::startedAgain, x -> x.output(0));
        CHECK.refuses("output(1)", NoSuchElementException.class, () -> bench.output(1));
        CHECK.due("run(5)", bench.run(5), 5);
        CHECK.due("output(0)", bench.output(0), 6);
        CHECK.refuses("output(1), not put out again yet", NoSuchElementException.class, () -> bench.output(1));
    }

    private static void noInputIsRead() {
        CHECK.sentence("no input read");
        QueueBench bench = startedAgain();
        CHECK.due("state(3)", bench.state(3), 0);
        bench.run(1);
        CHECK.due("name(0) is of the first input again", bench.name(0), 6);
        CHECK.due("state(3)", bench.state(3), 1);
    }

    private static void givenValuesStay() {
        CHECK.sentence("(the given values stay)");
        QueueBench bench = startedAgain();
        CHECK.due("count(3)", bench.count(3), 2);
        CHECK.due("give(8)", bench.give(8), 3);
        bench.start();
        CHECK.due("count(3)", bench.count(3), 3);
    }

    private static void fromInsideACall() {
        CHECK.sentence("The program is at its beginning (from inside calls and loops)");
        QueueBench bench = Texts.started("A{!1;!2;}B{A;!3;}*a<1{a=1;B;!4;}!5;");
        CHECK.due("run(5)", bench.run(5), 5);
        bench.start();
        CHECK.due("state(4)", bench.state(4), 17);
        CHECK.due("run(1000)", bench.run(1000), 10);
        CHECK.due("state(0)", bench.state(0), 1);
        for (int k = 0; k < 5; k++) {
            CHECK.due("output(" + k + ")", bench.output(k), k + 1);
        }
    }

    private static void behindTrouble() {
        CHECK.sentence("The program is at its beginning (behind trouble)");
        QueueBench bench = Texts.started("!1;!#;");
        CHECK.due("run(9)", bench.run(9), 1);
        CHECK.due("state(0)", bench.state(0), 4);
        bench.give(2);
        bench.start();
        CHECK.due("state(0) behind start()", bench.state(0), 0);
        CHECK.due("run(9) with input", bench.run(9), 2);
        CHECK.due("state(0) at the end", bench.state(0), 1);
    }

    private static void withoutSteps() {
        CHECK.sentence("A program has ended ... (at start(), if it has none)");
        for (String text : new String[] {"", " \n ", "A{}", "A{!1;}B{A;}"}) {
            QueueBench bench = Texts.started(text, 1);
            CHECK.due("state(0) of " + text, bench.state(0), 1);
            CHECK.due("state(4) of " + text, bench.state(4), QueueBench.NONE);
            CHECK.due("run(1) of " + text, bench.run(1), 0);
            for (int what = 1; what < 4; what++) {
                CHECK.due("state(" + what + ") of " + text, bench.state(what), 0);
            }
            CHECK.due("name(0) of " + text, bench.name(0), 0);
        }
    }

    private static void withoutProgram() {
        CHECK.sentence("IllegalStateException: there is no program");
        CHECK.refuses("start() of a new object", IllegalStateException.class, QueueBench::new, QueueBench::start);
        CHECK.refuses("start() ahead of compile()", IllegalStateException.class, Situation.FED::make,
                QueueBench::start);
        CHECK.refuses("start() behind a fault", IllegalStateException.class, Situation.BEHIND_A_FAULT::make,
                QueueBench::start);
        QueueBench bench = Situation.BEHIND_A_FAULT.make();
        bench.clear();
        CHECK.refuses("start() behind a fault and clear()", IllegalStateException.class, bench::start);
        bench.compile();
        bench.start();
        CHECK.due("state(0) of no text", bench.state(0), 1);
    }
}
