/** Promise 3: clear. */
final class ClearTest {
    private static final Check CHECK = new Check();

    public static void main(String[] args) {
        textIsEmpty();
        howManySignsItHad();
        programStays();
        inputStays();
        noProgramStaysNoProgram();
        CHECK.end("ClearTest");
    }

    private static void textIsEmpty() {
        CHECK.sentence("The text is empty");
        QueueBench bench = new QueueBench();
        Texts.feed(bench, "this is no program");
        bench.clear();
        CHECK.due("count(0)", bench.count(0), 0);
        CHECK.due("compile()", bench.compile(), 0);
        CHECK.due("count(1)", bench.count(1), 0);
        Texts.feed(bench, "!1;");
        CHECK.due("compile() of a new text", bench.compile(), 0);
        CHECK.due("count(1) of a new text", bench.count(1), 1);
    }

    private static void howManySignsItHad() {
        CHECK.sentence("how many signs it had");
        QueueBench bench = new QueueBench();
        CHECK.due("clear() of no text", bench.clear(), 0);
        bench.feed(0, 0, '?', 0, 0);
        CHECK.due("clear() of one sign", bench.clear(), 1);
        CHECK.due("clear() again", bench.clear(), 0);
        Texts.fill(bench, 3000);
        CHECK.due("clear() of 3000 signs", bench.clear(), 3000);
        Texts.fill(bench, 3000);
        CHECK.due("count(0) of 3000 signs again", bench.count(0), 3000);
    }

    private static void programStays() {
        CHECK.sentence("(The program stays.)");
        QueueBench bench = Texts.started("A{!1;}A;a=2;@3=a;!4;", 5);
        CHECK.due("run(3)", bench.run(3), 3);
        CHECK.due("clear()", bench.clear(), 20);
        CHECK.due("count(1)", bench.count(1), 5);
        CHECK.due("count(2)", bench.count(2), 1);
        CHECK.due("state(0)", bench.state(0), 0);
        CHECK.due("state(1)", bench.state(1), 3);
        CHECK.due("state(4)", bench.state(4), 12);
        CHECK.due("name(0)", bench.name(0), 2);
        CHECK.due("output(0)", bench.output(0), 1);
        Texts.feed(bench, "what is fed now is not the program");
        CHECK.due("terms(12)", bench.terms(12), 2);
        CHECK.due("run(9)", bench.run(9), 2);
        CHECK.due("cell(3)", bench.cell(3), 2);
        CHECK.due("output(1)", bench.output(1), 4);
        bench.start();
        CHECK.due("run(9) from the beginning", bench.run(9), 5);
        CHECK.due("clear() of the other text", bench.clear(), 34);
        CHECK.due("compile() of no text", bench.compile(), 0);
        CHECK.due("count(1) of no text", bench.count(1), 0);
    }

    private static void inputStays() {
        CHECK.sentence("(clear: nothing but the text)");
        QueueBench bench = Texts.started("!#;!#;", 8, 9);
        bench.run(1);
        bench.clear();
        CHECK.due("count(3)", bench.count(3), 2);
        CHECK.due("state(3)", bench.state(3), 1);
        CHECK.due("run(1)", bench.run(1), 1);
        CHECK.due("output(1)", bench.output(1), 9);
        CHECK.due("give(10)", bench.give(10), 3);
    }

    private static void noProgramStaysNoProgram() {
        CHECK.sentence("clear: (without a program)");
        QueueBench bench = new QueueBench();
        Texts.feed(bench, "!1;");
        bench.clear();
        CHECK.refuses("start() behind clear()", IllegalStateException.class, bench::start);
        Texts.compile(bench, "!1");
        bench.clear();
        CHECK.refuses("start() behind a fault and clear()", IllegalStateException.class, bench::start);
        CHECK.due("count(1)", bench.count(1), 0);
    }
}
