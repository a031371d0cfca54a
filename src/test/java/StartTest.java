import java.util.NoSuchElementException;

/** Promise 6: start. */
final class StartTest {
    public static void main(String[] args) {
        Check check = new Check();
        allIsAtItsBeginning(check);
        startFromInsideACall(check);
        startBehindTrouble(check);
        programWithoutSteps(check);
        withoutProgram(check);
        check.end("StartTest");
    }

    private static void allIsAtItsBeginning(Check check) {
        QueueBench bench = Texts.started("a=#;z=2;@0=3;@99=4;!a;!5;", 6, 7);
        check.due("run(9)", bench.run(9), 6);
        bench.start();
        for (int k = 0; k < 26; k++) {
            check.due("name(" + k + ")", bench.name(k), 0);
        }
        for (int k = 0; k < 100; k++) {
            check.due("cell(" + k + ")", bench.cell(k), 0);
        }
        check.refuses("output(0)", NoSuchElementException.class, () -> bench.output(0));
        for (int what = 0; what < 5; what++) {
            check.due("state(" + what + ")", bench.state(what), 0);
        }
        check.due("count(3)", bench.count(3), 2);
        check.due("run(5)", bench.run(5), 5);
        check.due("output(0) is of the first input again", bench.output(0), 6);
    }

    private static void startFromInsideACall(Check check) {
        QueueBench bench = Texts.started("A{!1;!2;}A;!3;");
        check.due("run(2)", bench.run(2), 2);
        bench.start();
        check.due("state(4)", bench.state(4), 9);
        check.due("run(9)", bench.run(9), 4);
        check.due("state(0)", bench.state(0), 1);
    }

    private static void startBehindTrouble(Check check) {
        QueueBench bench = Texts.started("!1;!#;");
        check.due("run(9)", bench.run(9), 1);
        check.due("state(0)", bench.state(0), 4);
        bench.give(2);
        bench.start();
        check.due("state(0) behind start()", bench.state(0), 0);
        check.due("run(9) with input", bench.run(9), 2);
        check.due("state(0) at the end", bench.state(0), 1);
    }

    private static void programWithoutSteps(Check check) {
        for (String text : new String[] {"", " \n ", "A{}", "A{!1;}B{A;}"}) {
            QueueBench bench = Texts.started(text);
            check.due("state(0) of " + text, bench.state(0), 1);
            check.due("state(4) of " + text, bench.state(4), QueueBench.NONE);
            check.due("run(1) of " + text, bench.run(1), 0);
            check.due("state(1) of " + text, bench.state(1), 0);
        }
    }

    private static void withoutProgram(Check check) {
        QueueBench bench = Texts.started("a=1;");
        bench.run(1);
        Texts.compile(bench, "a=1");
        check.refuses("start() behind a fault", IllegalStateException.class, bench::start);
        check.refuses("name(0) behind a fault", NoSuchElementException.class, () -> bench.name(0));
        check.due("compile()", Texts.compile(bench, "a=1;"), 0);
        check.refuses("name(0) ahead of start()", NoSuchElementException.class, () -> bench.name(0));
        bench.start();
        check.due("name(0)", bench.name(0), 0);
    }
}
