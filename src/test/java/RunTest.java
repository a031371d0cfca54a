/** Promise 7: run. What statements, steps and troubles are, is looked at in MeaningTest, StepsTest and TroubleTest. */
final class RunTest {
    private static final Check CHECK = new Check();

    public static void main(String[] args) {
        atMostSoManySteps();
        howManyWereDone();
        leastAndMost();
        wrongNumber();
        notStarted();
        CHECK.end("RunTest");
    }

    private static void atMostSoManySteps() {
        CHECK.sentence("At most so many steps");
        QueueBench bench = Texts.started("!1;!2;!3;!4;!5;!6;");
        int[] asked = {0, 1, 2, 0, 3, 1};
        int done = 0;
        for (int n : asked) {
            int due = Math.min(n, 6 - done);
            CHECK.due("run(" + n + ") behind " + done, bench.run(n), due);
            done += due;
            CHECK.due("state(1)", bench.state(1), done);
            CHECK.due("state(2)", bench.state(2), done);
        }
        for (int k = 0; k < 6; k++) {
            CHECK.due("output(" + k + ")", bench.output(k), k + 1);
        }
    }

    private static void howManyWereDone() {
        CHECK.sentence("how many were done");
        CHECK.due("run(1000) of no step", Texts.started("").run(1000), 0);
        CHECK.due("run(1000) of one step", Texts.started("!1;").run(1000), 1);
        CHECK.due("run(2) of two steps", Texts.started("!1;!2;").run(2), 2);
        CHECK.due("run(3) of two steps", Texts.started("!1;!2;").run(3), 2);
        CHECK.due("run(1000) at the end", Texts.run("!1;").run(1000), 0);
        CHECK.due("run(3) ahead of trouble", Texts.started("!1;!2;!3/0;!4;").run(3), 2);
        CHECK.due("run(1000) in trouble", Texts.run("!1;!2;!3/0;!4;").run(1000), 0);
    }

    private static void leastAndMost() {
        CHECK.sentence("0 .. 1000");
        QueueBench bench = Texts.started("*1{a=a+1;}");
        CHECK.due("run(0)", bench.run(0), 0);
        CHECK.due("state(1) behind run(0)", bench.state(1), 0);
        CHECK.due("state(4) behind run(0)", bench.state(4), 0);
        CHECK.due("run(1)", bench.run(1), 1);
        CHECK.due("run(999)", bench.run(999), 999);
        CHECK.due("run(1000)", bench.run(1000), 1000);
        CHECK.due("state(1)", bench.state(1), 2000);
        CHECK.due("name(0)", bench.name(0), 1000);
        CHECK.due("run(0) at the end", Texts.run("!1;").run(0), 0);
        QueueBench trouble = Texts.started("!1/0;");
        CHECK.due("run(0) ahead of trouble", trouble.run(0), 0);
        CHECK.due("state(0) behind run(0) ahead of trouble", trouble.state(0), 0);
    }

    private static void wrongNumber() {
        CHECK.sentence("IllegalArgumentException: n is not 0 .. 1000");
        for (int n : new int[] {-1, 1001, -1000, 65536, Integer.MIN_VALUE, Integer.MAX_VALUE}) {
            CHECK.refuses("run(" + n + ")", IllegalArgumentException.class, Situation.IN_A_CALL::make, x -> x.run(n));
            CHECK.refuses("run(" + n + ") at the end", IllegalArgumentException.class, Situation.ENDED::make,
                    x -> x.run(n));
            CHECK.refuses("run(" + n + ") ahead of start()", IllegalArgumentException.class, Situation.COMPILED::make,
                    x -> x.run(n));
            CHECK.refuses("run(" + n + ") without a program", IllegalArgumentException.class, QueueBench::new,
                    x -> x.run(n));
        }
    }

    private static void notStarted() {
        CHECK.sentence("IllegalStateException: no program was started");
        for (int n : new int[] {0, 1, 1000}) {
            CHECK.refuses("run(" + n + ") of a new object", IllegalStateException.class, QueueBench::new,
                    x -> x.run(n));
            CHECK.refuses("run(" + n + ") ahead of start()", IllegalStateException.class, Situation.COMPILED::make,
                    x -> x.run(n));
            CHECK.refuses("run(" + n + ") behind compile()", IllegalStateException.class,
                    Situation.COMPILED_AGAIN::make, x -> x.run(n));
            CHECK.refuses("run(" + n + ") behind a fault", IllegalStateException.class,
                    Situation.BEHIND_A_FAULT::make, x -> x.run(n));
        }
    }
}
