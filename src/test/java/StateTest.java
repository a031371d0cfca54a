/** Promise 8: state. */
final class StateTest {
    private static final Check CHECK = new Check();

    public static void main(String[] args) {
        runsOrEndedOrTrouble();
        endIsSeenAtOnce();
        stepsDone();
        howMuchWasPutOut();
        inputsRead();
        placeOfTheNextStep();
        placeOfTheStepWithTrouble();
        noPlaceAtTheEnd();
        allOfOneRun();
        wrongNumber();
        notStarted();
        CHECK.end("StateTest");
    }

    private static void states(QueueBench bench, String when, int... due) {
        for (int what = 0; what < due.length; what++) {
            CHECK.due("state(" + what + ") " + when, bench.state(what), due[what]);
        }
    }

    private static void runsOrEndedOrTrouble() {
        CHECK.sentence("0 0 if it runs, 1 if it has ended, else its trouble");
        QueueBench bench = Texts.started("!1;!2;");
        CHECK.due("state(0) at the beginning", bench.state(0), 0);
        bench.run(1);
        CHECK.due("state(0) on its way", bench.state(0), 0);
        bench.run(1);
        CHECK.due("state(0) at the end", bench.state(0), 1);
        bench.run(1);
        CHECK.due("state(0) at the end, asked to run", bench.state(0), 1);
        CHECK.due("state(0), divided by 0", Texts.run("!1/0;").state(0), 2);
        CHECK.due("state(0), no such cell", Texts.run("!@100;").state(0), 3);
        CHECK.due("state(0), no input", Texts.run("!#;").state(0), 4);
        CHECK.due("state(0) ahead of trouble", Texts.started("!1/0;").state(0), 0);
        CHECK.due("state(0), trouble in the last step of all", Texts.run("A{!1;!1/0;}A;").state(0), 2);
    }

    private static void endIsSeenAtOnce() {
        CHECK.sentence("A program has ended as soon as no step is left");
        String[] texts = {"!1;", "?0{!1;}", "?1{}", "*0{}", "A{}A;", "A{}B{A;}B;", "A{?0{}}A;", "A{*0{}}?1{?1{A;}}",
            "?1{}:{!1;}", "?0{}:{}", "?0{!1;}!1;A{!2;}", "A{}B{A;}C{B;}?1{C;}"};
        int[] steps = {1, 1, 1, 1, 1, 2, 2, 4, 1, 1, 2, 4};
        for (int k = 0; k < texts.length; k++) {
            QueueBench bench = Texts.started(texts[k]);
            CHECK.due("run of all but one of " + texts[k], bench.run(steps[k] - 1), steps[k] - 1);
            CHECK.due("state(0) ahead of the end of " + texts[k], bench.state(0), 0);
            CHECK.due("run of the last one of " + texts[k], bench.run(1), 1);
            CHECK.due("state(0) at the end of " + texts[k], bench.state(0), 1);
            CHECK.due("state(4) at the end of " + texts[k], bench.state(4), QueueBench.NONE);
        }
    }

    private static void stepsDone() {
        CHECK.sentence("1 steps done");
        QueueBench bench = Texts.started("*1{}");
        CHECK.due("state(1) at the beginning", bench.state(1), 0);
        for (int k = 1; k <= 200; k++) {
            bench.run(1000);
        }
        CHECK.due("state(1) behind 200 runs", bench.state(1), 200000);
        bench.run(0);
        CHECK.due("state(1) behind run(0)", bench.state(1), 200000);
        CHECK.due("state(1), trouble at once", Texts.run("!#;").state(1), 0);
        CHECK.due("state(1), trouble later", Texts.run("!1;a=2;!#;").state(1), 2);
    }

    private static void howMuchWasPutOut() {
        CHECK.sentence("2 how much was put out (the latest 200 are kept)");
        QueueBench bench = Texts.started("*1{!1;}");
        CHECK.due("state(2) at the beginning", bench.state(2), 0);
        bench.run(399);
        CHECK.due("state(2), one short of 200", bench.state(2), 199);
        bench.run(1);
        CHECK.due("state(2), at 200", bench.state(2), 200);
        bench.run(2);
        CHECK.due("state(2), more than are kept", bench.state(2), 201);
        bench.run(1000);
        CHECK.due("state(2), many more than are kept", bench.state(2), 701);
        CHECK.due("state(2), trouble", Texts.run("!1;!2/0;").state(2), 1);
    }

    private static void inputsRead() {
        CHECK.sentence("3 inputs read");
        QueueBench bench = Texts.started("a=#+#;?#{!#;}!#;", 1, 2, 3, 4);
        int[] read = {0, 2, 3, 4, 4};
        for (int due : read) {
            CHECK.due("state(3)", bench.state(3), due);
            bench.run(1);
        }
        CHECK.due("state(0), nothing left", bench.state(0), 4);
        bench.give(5);
        CHECK.due("state(3), given is not read", bench.state(3), 4);
        QueueBench ended = Texts.run("!#+#;", 1, 2, 3);
        CHECK.due("state(3) at the end", ended.state(3), 2);
        ended.give(4);
        CHECK.due("state(3) at the end, with more input", ended.state(3), 2);
    }

    private static void placeOfTheNextStep() {
        CHECK.sentence("4 the place of the first sign of the next step");
        QueueBench bench = Texts.started("  A { } B{ A ;a=1;}\n?1{} *a<1{B; } A;");
        int[] places = {20, 25, 30, 11, 14, 25, 35, QueueBench.NONE};
        for (int k = 0; k < places.length; k++) {
            CHECK.due("state(4) at step " + k, bench.state(4), places[k]);
            bench.run(1);
        }
        QueueBench far = Texts.started(" ".repeat(2997) + "!1;");
        CHECK.due("state(4) of the last place", far.state(4), 2997);
        QueueBench loop = Texts.started("*1{?0{}:{a=1;}}");
        loop.run(3);
        CHECK.due("state(4) behind a loop's block", loop.state(4), 0);
        loop.clear();
        CHECK.due("state(4) behind clear()", loop.state(4), 0);
    }

    private static void placeOfTheStepWithTrouble() {
        CHECK.sentence("or of the one with trouble");
        CHECK.due("state(4) of the first step", Texts.run("!1/0;!2;").state(4), 0);
        CHECK.due("state(4) of the last step", Texts.run("!1; !2/0;").state(4), 4);
        CHECK.due("state(4) of a step in a call", Texts.run("A{a=1;@a=#;}!1;A;").state(4), 6);
        CHECK.due("state(4) of a condition", Texts.run("a=1;?@-a{}").state(4), 4);
        QueueBench bench = Texts.run("a=2;*6/a{a=a-1;}!5;");
        CHECK.due("state(4) of a loop", bench.state(4), 4);
        bench.run(1000);
        bench.give(1);
        CHECK.due("state(4) of a loop, asked to run", bench.state(4), 4);
    }

    private static void noPlaceAtTheEnd() {
        CHECK.sentence("(NONE: it has ended)");
        CHECK.due("state(4) at the end", Texts.run("!1;").state(4), QueueBench.NONE);
        CHECK.due("state(4) at the end of a call", Texts.run("A{!1;}A;").state(4), QueueBench.NONE);
        CHECK.due("state(4) of no step", Texts.started("").state(4), QueueBench.NONE);
        CHECK.due("state(4) of definitions alone", Texts.started("A{!1;}").state(4), QueueBench.NONE);
    }

    private static void allOfOneRun() {
        CHECK.sentence("state: all numbers of one run");
        QueueBench bench = Texts.started(" A{!#;}\n*a<2 {A; a=a+1; } !#+#+#; !5;", 1, 2, 3, 4);
        states(bench, "at the beginning", 0, 0, 0, 0, 8);
        bench.run(1);
        states(bench, "behind the condition", 0, 1, 0, 0, 14);
        bench.run(1);
        states(bench, "behind the call", 0, 2, 0, 0, 3);
        bench.run(1);
        states(bench, "behind the output", 0, 3, 1, 1, 17);
        bench.run(1);
        states(bench, "behind the block", 0, 4, 1, 1, 8);
        bench.run(4);
        states(bench, "behind the second time", 0, 8, 2, 2, 8);
        bench.run(1);
        states(bench, "behind the loop", 0, 9, 2, 2, 26);
        bench.run(1);
        states(bench, "at the trouble", 4, 9, 2, 2, 26);
        bench.clear();
        bench.give(5);
        states(bench, "at the trouble, with input", 4, 9, 2, 2, 26);
        bench.start();
        bench.run(100);
        states(bench, "at the end", 1, 11, 4, 5, QueueBench.NONE);
    }

    private static void wrongNumber() {
        CHECK.sentence("IllegalArgumentException: none of these");
        for (int what : new int[] {-1, 5, 256, Integer.MIN_VALUE, Integer.MAX_VALUE}) {
            CHECK.refuses("state(" + what + ")", IllegalArgumentException.class, Situation.IN_A_CALL::make,
                    x -> x.state(what));
            CHECK.refuses("state(" + what + ") in trouble", IllegalArgumentException.class,
                    Situation.WITHOUT_INPUT::make, x -> x.state(what));
            CHECK.refuses("state(" + what + ") ahead of start()", IllegalArgumentException.class,
                    Situation.COMPILED::make, x -> x.state(what));
            CHECK.refuses("state(" + what + ") without a program", IllegalArgumentException.class, QueueBench::new,
                    x -> x.state(what));
        }
    }

    private static void notStarted() {
        CHECK.sentence("IllegalStateException: no program was started");
        for (int k = 0; k < 5; k++) {
            int what = k;
            CHECK.refuses("state(" + what + ") of a new object", IllegalStateException.class, QueueBench::new,
                    x -> x.state(what));
            CHECK.refuses("state(" + what + ") ahead of start()", IllegalStateException.class,
                    Situation.COMPILED::make, x -> x.state(what));
            CHECK.refuses("state(" + what + ") behind compile()", IllegalStateException.class,
                    Situation.COMPILED_AGAIN::make, x -> x.state(what));
            CHECK.refuses("state(" + what + ") behind a fault", IllegalStateException.class,
                    Situation.BEHIND_A_FAULT::make, x -> x.state(what));
        }
    }
}
