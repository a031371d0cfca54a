import java.util.NoSuchElementException;

/** Promise 9: output. */
final class OutputTest {
    public static void main(String[] args) {
        Check check = new Check();
        valuesFromTheFirstOn(check);
        latest200AreKept(check);
        withoutStart(check);
        check.end("OutputTest");
    }

    private static void valuesFromTheFirstOn(Check check) {
        QueueBench bench = Texts.started("!-1;!2147483647+1;!0;");
        check.refuses("output(0) ahead of run", NoSuchElementException.class, () -> bench.output(0));
        bench.run(2);
        check.due("output(0)", bench.output(0), -1);
        check.due("output(1)", bench.output(1), Integer.MIN_VALUE);
        check.refuses("output(2)", NoSuchElementException.class, () -> bench.output(2));
        check.refuses("output(-1)", NoSuchElementException.class, () -> bench.output(-1));
        check.refuses("output(MIN_VALUE)", NoSuchElementException.class, () -> bench.output(Integer.MIN_VALUE));
        check.refuses("output(MAX_VALUE)", NoSuchElementException.class, () -> bench.output(Integer.MAX_VALUE));
        bench.run(1);
        check.due("output(2)", bench.output(2), 0);
    }

    private static void latest200AreKept(Check check) {
        QueueBench bench = Texts.started("*1{!a*3;a=a+1;}");
        bench.run(600);
        check.due("state(2) at 200", bench.state(2), 200);
        check.due("output(0) at 200", bench.output(0), 0);
        check.due("output(199) at 200", bench.output(199), 597);
        check.refuses("output(200) at 200", NoSuchElementException.class, () -> bench.output(200));
        bench.run(3);
        check.due("state(2) at 201", bench.state(2), 201);
        check.refuses("output(0) at 201", NoSuchElementException.class, () -> bench.output(0));
        check.due("output(1) at 201", bench.output(1), 3);
        check.due("output(200) at 201", bench.output(200), 600);
        bench.run(999);
        check.due("state(2) at 534", bench.state(2), 534);
        check.refuses("output(333) at 534", NoSuchElementException.class, () -> bench.output(333));
        for (int k = 334; k < 534; k++) {
            check.due("output(" + k + ") at 534", bench.output(k), 3 * k);
        }
    }

    private static void withoutStart(Check check) {
        QueueBench bench = Texts.started("!1;");
        bench.run(1);
        bench.clear();
        check.due("output(0) behind clear()", bench.output(0), 1);
        bench.compile();
        check.refuses("output(0) behind compile()", NoSuchElementException.class, () -> bench.output(0));
    }
}
