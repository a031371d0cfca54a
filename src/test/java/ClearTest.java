/** Promise 3: clear. */
final class ClearTest {
    public static void main(String[] args) {
        Check check = new Check();
        QueueBench bench = Texts.started("A{!1;}A;a=2;@3=a;!4;", 5);
        check.due("run(3)", bench.run(3), 3);
        check.due("clear()", bench.clear(), 20);
        check.due("count(0)", bench.count(0), 0);
        check.due("clear() of no text", bench.clear(), 0);
        check.due("count(1)", bench.count(1), 5);
        check.due("count(2)", bench.count(2), 1);
        check.due("count(3)", bench.count(3), 1);
        Texts.feed(bench, "what is fed now is not the program");
        check.due("terms(12)", bench.terms(12), 2);
        check.due("state(4)", bench.state(4), 12);
        check.due("run(9)", bench.run(9), 2);
        check.due("cell(3)", bench.cell(3), 2);
        check.due("output(1)", bench.output(1), 4);
        bench.start();
        check.due("run(9) from the beginning", bench.run(9), 5);
        check.due("clear() of the other text", bench.clear(), 34);
        check.due("compile() of no text", bench.compile(), 0);
        check.due("count(1) of no text", bench.count(1), 0);
        check.end("ClearTest");
    }
}
