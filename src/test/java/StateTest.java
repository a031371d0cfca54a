/** Promise 8: state. */
final class StateTest {
    private static final Check CHECK = new Check();

    public static void main(String[] args) {
        allStatesOfOneRun();
        endIsSeenAtOnce();
        refused();
        CHECK.end("StateTest");
    }

    private static void states(QueueBench bench, String when, int... due) {
        for (int what = 0; what < due.length; what++) {
            CHECK.due("state(" + what + ") " + when, bench.state(what), due[what]);
        }
    }

    private static void allStatesOfOneRun() {
        QueueBench bench = Texts.started(" A{!#;}\n*a<2 {A; a=a+1; } !#+#+#; !5;", 1, 2, 3, 4);
        states(bench, "at the beginning", 0, 0, 0, 0, 8);
        bench.run(1);
        states(bench, "behind the condition", 0, 1, 0, 0, 14);
        bench.run(1);
        states(bench, "behind the call", 0, 2, 0, 0, 3);
        bench.run(1);
        states(bench, "behind the output", 0, 3, 1, 1, 17);
        bench.run(1);
        states(bench, "behind the block", 0, 4, 1, 1, 8);
        bench.run(4);
        states(bench, "behind the second time", 0, 8, 2, 2, 8);
        bench.run(1);
        states(bench, "behind the loop", 0, 9, 2, 2, 26);
        bench.run(1);
        states(bench, "at the trouble", 4, 9, 2, 2, 26);
        bench.clear();
        bench.give(5);
        states(bench, "at the trouble, with input", 4, 9, 2, 2, 26);
        bench.start();
        bench.run(100);
        states(bench, "at the end", 1, 11, 4, 5, QueueBench.NONE);
    }

    private static void endIsSeenAtOnce() {
        String[] texts = {"!1;", "?0{!1;}", "?1{}", "*0{}", "A{}A;", "A{}B{A;}B;", "A{?0{}}A;", "A{*0{}}?1{?1{A;}}",
            "?1{}:{!1;}", "?0{}:{}", "?0{!1;}!1;A{!2;}"};
        int[] steps = {1, 1, 1, 1, 1, 2, 2, 4, 1, 1, 2};
        for (int k = 0; k < texts.length; k++) {
            QueueBench bench = Texts.started(texts[k]);
            CHECK.due("run of all but one of " + texts[k], bench.run(steps[k] - 1), steps[k] - 1);
            CHECK.due("state(0) ahead of the end of " + texts[k], bench.state(0), 0);
            CHECK.due("run of the last one of " + texts[k], bench.run(1), 1);
            CHECK.due("state(0) at the end of " + texts[k], bench.state(0), 1);
            CHECK.due("state(4) at the end of " + texts[k], bench.state(4), QueueBench.NONE);
        }
    }

    private static void refused() {
        QueueBench bench = Texts.compiled("!1;");
        for (int what = 0; what < 5; what++) {
            int each = what;
            CHECK.refuses("state(" + each + ") ahead of start()", IllegalStateException.class,
                    () -> bench.state(each));
        }
        refusedNumbers(bench);
        bench.start();
        refusedNumbers(bench);
        states(bench, "behind wrong calls", 0, 0, 0, 0, 0);
        Texts.compile(bench, "!");
        CHECK.refuses("state(0) without a program", IllegalStateException.class, () -> bench.state(0));
    }

    private static void refusedNumbers(QueueBench bench) {
        for (int what : new int[] {-1, 5, Integer.MIN_VALUE, Integer.MAX_VALUE}) {
            CHECK.refuses("state(" + what + ")", IllegalArgumentException.class, () -> bench.state(what));
        }
    }
}
