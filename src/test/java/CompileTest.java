import java.util.NoSuchElementException;

/** Promise 4: compile. What a fault is, is looked at in WordsTest, GrammarTest and FaultTest. */
final class CompileTest {
    private static final Check CHECK = new Check();

    public static void main(String[] args) {
        textIsTheProgram();
        fromNowOn();
        notStarted();
        placeOfAFault();
        noProgramAtAFault();
        textAndInputStay();
        oldProgramLeavesNoTrace();
        CHECK.end("CompileTest");
    }

    private static void textIsTheProgram() {
        CHECK.sentence("The text is the program ...: 0");
        QueueBench bench = new QueueBench();
        CHECK.due("compile() of no text", bench.compile(), 0);
        bench.start();
        CHECK.due("state(0) of no text", bench.state(0), 1);
        CHECK.due("compile()", Texts.compile(bench, "a=1;!2;"), 0);
        CHECK.due("count(1)", bench.count(1), 2);
        bench.start();
        CHECK.due("run(9)", bench.run(9), 2);
        CHECK.due("output(0)", bench.output(0), 2);
        QueueBench full = new QueueBench();
        CHECK.due("compile() of 3000 signs", Texts.compile(full, "!1+2+3+ 4;".repeat(300)), 0);
        full.start();
        CHECK.due("run(1000) of 3000 signs", full.run(1000), 300);
    }

    private static void fromNowOn() {
        CHECK.sentence("The text is the program from now on");
        QueueBench bench = Texts.run("!1;");
        Texts.feed(bench, "!2;");
        CHECK.due("count(1) ahead of compile()", bench.count(1), 1);
        CHECK.due("state(0) ahead of compile()", bench.state(0), 1);
        bench.start();
        CHECK.due("run(9) ahead of compile()", bench.run(9), 1);
        CHECK.due("compile()", bench.compile(), 0);
        CHECK.due("count(1)", bench.count(1), 2);
        bench.start();
        CHECK.due("run(9)", bench.run(9), 2);
        CHECK.due("output(1)", bench.output(1), 2);
    }

    private static QueueBench compiledAgain() {
        QueueBench bench = Texts.run("a=1;@2=3;!4;");
        bench.compile();
        return bench;
    }

    private static void notStarted() {
        CHECK.sentence("not started");
        QueueBench bench = compiledAgain();
        CHECK.refuses("run(1)", IllegalStateException.class, CompileTest::compiledAgain, x -> x.run(1));
        CHECK.refuses("state(0)", IllegalStateException.class, CompileTest::compiledAgain, x -> x.state(0));
        CHECK.refuses("output(0)", NoSuchElementException.class, CompileTest::compiledAgain, x -> x.output(0));
        CHECK.refuses("name(0)", NoSuchElementException.class, CompileTest::compiledAgain, x -> x.name(0));
        CHECK.refuses("cell(2)", NoSuchElementException.class, CompileTest::compiledAgain, x -> x.cell(2));
        CHECK.due("terms(0)", bench.terms(0), 1);
        bench.start();
        CHECK.due("state(1)", bench.state(1), 0);
        CHECK.due("name(0)", bench.name(0), 0);
    }

    private static void placeOfAFault() {
        CHECK.sentence("or, at a fault, its place + 1");
        CHECK.due("compile() with a fault at 0", Texts.compile(new QueueBench(), ";"), 1);
        CHECK.due("compile() with a fault at 1", Texts.compile(new QueueBench(), " ;"), 2);
        CHECK.due("compile() with a fault at 4", Texts.compile(new QueueBench(), "a=1;;"), 5);
        CHECK.due("compile() with a fault at the end", Texts.compile(new QueueBench(), "a=1"), 4);
        String many = "!1;" + " ".repeat(2996);
        CHECK.due("compile() with a fault at 2999", Texts.compile(new QueueBench(), many + ";"), 3000);
        CHECK.due("compile() with a fault at 3000", Texts.compile(new QueueBench(), many + "!"), 3001);
        CHECK.due("compile() with an early fault", Texts.compile(new QueueBench(), "+" + many), 1);
    }

    private static QueueBench behindAFault() {
        QueueBench bench = Texts.run("A{}a=1;@2=3;!4;");
        bench.feed('c', 0, 0, 0, 0);
        bench.compile();
        return bench;
    }

    private static void noProgramAtAFault() {
        CHECK.sentence("and there is no program");
        CHECK.due("count(1)", behindAFault().count(1), 0);
        CHECK.due("count(2)", behindAFault().count(2), 0);
        CHECK.refuses("start()", IllegalStateException.class, CompileTest::behindAFault, QueueBench::start);
        CHECK.refuses("run(1)", IllegalStateException.class, CompileTest::behindAFault, x -> x.run(1));
        CHECK.refuses("state(0)", IllegalStateException.class, CompileTest::behindAFault, x -> x.state(0));
        CHECK.refuses("output(0)", NoSuchElementException.class, CompileTest::behindAFault, x -> x.output(0));
        CHECK.refuses("name(0)", NoSuchElementException.class, CompileTest::behindAFault, x -> x.name(0));
        CHECK.refuses("cell(2)", NoSuchElementException.class, CompileTest::behindAFault, x -> x.cell(2));
        CHECK.refuses("terms(3)", NoSuchElementException.class, CompileTest::behindAFault, x -> x.terms(3));
        QueueBench bench = behindAFault();
        bench.feed('=', '3', ';', 0, 0);
        CHECK.due("compile() of the mended text", bench.compile(), 0);
        bench.start();
        CHECK.due("run(9) of the mended text", bench.run(9), 4);
    }

    private static void textAndInputStay() {
        CHECK.sentence("(compile: the text and the input stay)");
        QueueBench bench = new QueueBench();
        bench.give(5);
        Texts.feed(bench, "!#;");
        bench.compile();
        CHECK.due("count(0)", bench.count(0), 3);
        CHECK.due("count(3)", bench.count(3), 1);
        CHECK.due("compile() again", bench.compile(), 0);
        bench.feed(';', 0, 0, 0, 0);
        CHECK.due("compile() with a fault", bench.compile(), 4);
        CHECK.due("count(0) behind a fault", bench.count(0), 4);
        CHECK.due("count(3) behind a fault", bench.count(3), 1);
        CHECK.due("compile() with the fault again", bench.compile(), 4);
        CHECK.due("clear()", bench.clear(), 4);
    }

    private static void oldProgramLeavesNoTrace() {
        CHECK.sentence("(compile: nothing of the program that was)");
        QueueBench bench = new QueueBench();
        CHECK.due("compile() with A", Texts.compile(bench, "A{!1;}A;?1{!2;}:{!3;}"), 0);
        CHECK.due("compile() with A, not defined now", Texts.compile(bench, "A;"), 1);
        CHECK.due("compile() in an open block", Texts.compile(bench, "A{?a{*b{(("), 9);
        CHECK.due("compile() in an open expression", Texts.compile(bench, "@((-"), 5);
        CHECK.due("compile() of another expression", Texts.compile(bench, "!-(7);"), 0);
        bench.start();
        bench.run(1);
        CHECK.due("output(0) of another expression", bench.output(0), -7);
        CHECK.due("compile() with A again", Texts.compile(bench, "A{}?1{}A;"), 0);
        bench.start();
        CHECK.due("run(9) with empty blocks", bench.run(9), 2);
        CHECK.due("state(0)", bench.state(0), 1);
        CHECK.due("count(2)", bench.count(2), 1);
        CHECK.due("compile() behind open calls", runIntoACall(bench), 0);
        CHECK.due("run(9) behind open calls", bench.run(9), 1);
        CHECK.due("state(0) behind open calls", bench.state(0), 1);
    }

    private static int runIntoACall(QueueBench bench) {
        Texts.compile(bench, "A{!1;!2;}A;!3;");
        bench.start();
        bench.run(2);
        int answer = Texts.compile(bench, "!4;");
        bench.start();
        return answer;
    }
}
