/** Terms: what trouble is, and what a step does that comes to it. */
final class TroubleTest {
    private static final Check CHECK = new Check();

    public static void main(String[] args) {
        dividedByZero();
        noSuchCell();
        noInputIsLeft();
        whicheverComesFirst();
        cellThatIsToBeGivenAValueLast();
        doesNothing();
        isNotCounted();
        readsNoInput();
        runsNoMore();
        CHECK.end("TroubleTest");
    }

    private static void trouble(String text, int due, int... inputs) {
        CHECK.due("state(0) of " + text, Texts.run(text, inputs).state(0), due);
    }

    private static void dividedByZero() {
        CHECK.sentence("TROUBLE: 2 a number is divided by 0");
        trouble("!1/0;", 2);
        trouble("!1%0;", 2);
        trouble("!0/0;", 2);
        trouble("!0%0;", 2);
        trouble("!0/1;", 1);
        trouble("!1/-1;", 1);
        trouble("!(-2147483647-1)/(1-1);", 2);
        trouble("!1/a;", 2);
        trouble("!0*(1/0);", 2);
        trouble("a=1/0;", 2);
        trouble("@1=1/0;", 2);
        trouble("@(1/0)=1;", 2);
        trouble("?1/0{}", 2);
        trouble("*1/0{}", 2);
        trouble("A{!1/0;}A;", 2);
        trouble("?0{!1/0;}", 1);
    }

    private static void noSuchCell() {
        CHECK.sentence("3 there is no such cell");
        trouble("!@0;", 1);
        trouble("!@99;", 1);
        trouble("!@100;", 3);
        trouble("!@-1;", 3);
        trouble("!@2147483647;", 3);
        trouble("!@(-2147483647-1);", 3);
        trouble("@0=1;", 1);
        trouble("@99=1;", 1);
        trouble("@100=1;", 3);
        trouble("@-1=1;", 3);
        trouble("@2147483647=1;", 3);
        trouble("@(-2147483647-1)=1;", 3);
        trouble("@0=100;!@@0;", 3);
        trouble("a=@100;", 3);
        trouble("?@100{}", 3);
        trouble("*@-1{}", 3);
    }

    private static void noInputIsLeft() {
        CHECK.sentence("4 no input is left");
        trouble("!#;", 4);
        trouble("!#;", 1, 0);
        trouble("!#;!#;", 4, 1);
        trouble("!#+#;", 4, 1);
        trouble("!#+#;", 1, 1, 2);
        trouble("a=#;", 4);
        trouble("@#=1;", 4);
        trouble("@1=#;", 4);
        trouble("?#{}", 4);
        trouble("*#{}", 4, 1, 1, 1);
        trouble("*#{}", 1, 1, 1, 0);
    }

    private static void whicheverComesFirst() {
        CHECK.sentence("whichever comes first");
        trouble("!1/0+#;", 2);
        trouble("!#+1/0;", 4);
        trouble("!1/0+@100;", 2);
        trouble("!@100+1/0;", 3);
        trouble("!@100+#;", 3);
        trouble("!#+@100;", 4);
        trouble("!@100/0;", 3);
        trouble("!1/@100;", 3);
        trouble("!1/#;", 4);
        trouble("!#/0;", 4);
        trouble("!#/#;", 4, 1);
        trouble("!1/#;", 2, 0);
        trouble("!1/(0*#);", 4);
        trouble("!@(1/0);", 2);
        trouble("!@#;", 4);
        trouble("!(1<2)+1/0*#;", 2);
        trouble("!1+#/0;", 4);
        trouble("!1%0<#;", 2);
        trouble("!#=1%0;", 4);
        trouble("!1/(1/0+#);", 2);
        trouble("!1/(1-1)+@100;", 2);
        trouble("!(1/(1-1+#))+@100;", 4);
        trouble("?0{!1/0;}:{!@100;}", 3);
    }

    private static void cellThatIsToBeGivenAValueLast() {
        CHECK.sentence("that of the cell that is to be given a value last");
        trouble("@100=1/0;", 2);
        trouble("@100=#;", 4);
        trouble("@100=#;", 3, 5);
        trouble("@-1=@100/0;", 3);
        trouble("@-1=@99/0;", 2);
        trouble("@(1/0)=#;", 2);
        trouble("@#=1/0;", 4);
        trouble("@#=1/0;", 2, 100);
        trouble("@#=#;", 4, 100);
        trouble("@#=#;", 3, 100, 1);
        trouble("@@100=#;", 3);
        trouble("@@5=#;", 4);
        trouble("@@100=1/0;", 3);
    }

    private static void doesNothing() {
        CHECK.sentence("A step that comes to it does nothing");
        QueueBench bench = Texts.run("a=3;@1=4;!5;a=6/0;");
        CHECK.due("name(0)", bench.name(0), 3);
        QueueBench cell = Texts.run("a=3;@1=4;!5;@1=6/0;");
        CHECK.due("cell(1)", cell.cell(1), 4);
        QueueBench put = Texts.run("a=3;@1=4;!5;!6/0;");
        CHECK.due("state(2)", put.state(2), 1);
        CHECK.due("output(0)", put.output(0), 5);
        QueueBench condition = Texts.run("?1/0{!1;}:{!2;}!3;");
        CHECK.due("state(2) of a condition", condition.state(2), 0);
        CHECK.due("state(4) of a condition", condition.state(4), 0);
        QueueBench wrongCell = Texts.run("@100=7;");
        for (int k = 0; k < 100; k++) {
            CHECK.due("cell(" + k + ")", wrongCell.cell(k), 0);
        }
    }

    private static void isNotCounted() {
        CHECK.sentence("and is not counted");
        QueueBench bench = Texts.started("!1;!2;!3/0;!4;");
        CHECK.due("run(2)", bench.run(2), 2);
        CHECK.due("run(1)", bench.run(1), 0);
        CHECK.due("state(1)", bench.state(1), 2);
        CHECK.due("run(9), trouble at once", Texts.started("!#;").run(9), 0);
        CHECK.due("run(9), trouble in a call", Texts.started("A{!@100;}A;").run(9), 1);
        CHECK.due("run(9), trouble the third time", Texts.started("a=2;*1/a{a=a-1;}").run(9), 2);
    }

    private static void readsNoInput() {
        CHECK.sentence("it reads no input either");
        QueueBench divided = Texts.run("a=#;a=#+#+#/0;", 3, 4, 5, 6, 7);
        CHECK.due("state(3), divided by 0", divided.state(3), 1);
        CHECK.due("state(3), no such cell", Texts.run("!#+@(100+#);", 1, 2).state(3), 0);
        CHECK.due("state(3), no such cell for a value", Texts.run("!#;@100=#;", 1, 2).state(3), 1);
        QueueBench dry = Texts.run("!#;!#+#;", 1, 2);
        CHECK.due("state(3), too little input", dry.state(3), 1);
        CHECK.due("count(3), too little input", dry.count(3), 2);
        dry.give(3);
        dry.start();
        CHECK.due("run(9), started again", dry.run(9), 2);
        CHECK.due("output(1), started again", dry.output(1), 5);
    }

    private static void runsNoMore() {
        CHECK.sentence("and the program runs no more");
        QueueBench bench = Texts.run("!1;!#;!2;");
        bench.give(5);
        for (int n : new int[] {0, 1, 2, 1000}) {
            CHECK.due("run(" + n + ")", bench.run(n), 0);
            int[] due = {4, 1, 1, 0, 3};
            for (int what = 0; what < 5; what++) {
                CHECK.due("state(" + what + ")", bench.state(what), due[what]);
            }
        }
        bench.clear();
        CHECK.due("run(1) behind clear()", bench.run(1), 0);
        bench.start();
        CHECK.due("run(9) behind start()", bench.run(9), 3);
    }
}
