import java.util.NoSuchElementException;

/** Promise 1: no text, no program, no input. */
final class NewObjectTest {
    public static void main(String[] args) {
        Check check = new Check();
        QueueBench bench = new QueueBench();
        for (int what = 0; what < 4; what++) {
            check.due("count(" + what + ")", bench.count(what), 0);
        }
        check.refuses("start()", IllegalStateException.class, bench::start);
        check.refuses("run(0)", IllegalStateException.class, () -> bench.run(0));
        check.refuses("state(0)", IllegalStateException.class, () -> bench.state(0));
        check.refuses("output(0)", NoSuchElementException.class, () -> bench.output(0));
        check.refuses("name(0)", NoSuchElementException.class, () -> bench.name(0));
        check.refuses("cell(0)", NoSuchElementException.class, () -> bench.cell(0));
        check.refuses("terms(0)", NoSuchElementException.class, () -> bench.terms(0));
        check.due("clear()", bench.clear(), 0);
        check.due("give(7)", bench.give(7), 1);
        objectsShareNothing(check);
        check.end("NewObjectTest");
    }

    private static void objectsShareNothing(Check check) {
        QueueBench one = Texts.started("a=1;@2=3;!4;", 5);
        one.run(3);
        QueueBench other = new QueueBench();
        check.due("count(0) of another object", other.count(0), 0);
        check.due("count(1) of another object", other.count(1), 0);
        check.due("count(3) of another object", other.count(3), 0);
        check.due("compile() of another object", other.compile(), 0);
        other.start();
        check.due("name(0) of another object", other.name(0), 0);
        check.due("cell(2) of another object", other.cell(2), 0);
        check.due("name(0) of the first one", one.name(0), 1);
        check.due("output(0) of the first one", one.output(0), 4);
    }
}
