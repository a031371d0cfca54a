/** Promise 13: count. */
final class CountTest {
    private static final Check CHECK = new Check();

    public static void main(String[] args) {
        signsOfTheText();
        stepsOfTheProgram();
        proceduresOfTheProgram();
        withoutAProgram();
        valuesOfTheInput();
        allAlongTheWay();
        wrongNumber();
        CHECK.end("CountTest");
    }

    private static void signsOfTheText() {
        CHECK.sentence("0 signs of the text");
        QueueBench bench = new QueueBench();
        CHECK.due("count(0)", bench.count(0), 0);
        bench.feed(0, 0, 0, ' ', 0);
        CHECK.due("count(0) of one sign", bench.count(0), 1);
        Texts.fill(bench, 3000);
        CHECK.due("count(0) of 3000 signs", bench.count(0), 3000);
        bench.clear();
        CHECK.due("count(0) behind clear()", bench.count(0), 0);
    }

    private static void stepsOfTheProgram() {
        CHECK.sentence("1 steps that the program's text has (each once)");
        CHECK.due("count(1) of no text", Texts.compiled("").count(1), 0);
        CHECK.due("count(1) of a definition", Texts.compiled("A{}").count(1), 0);
        CHECK.due("count(1) of one statement", Texts.compiled("!1;").count(1), 1);
        CHECK.due("count(1) of a call", Texts.compiled("A{}A;").count(1), 1);
        CHECK.due("count(1) of a step in a definition", Texts.compiled("A{!1;}").count(1), 1);
        CHECK.due("count(1) of a step called twice", Texts.compiled("A{!1;}A;A;").count(1), 3);
        CHECK.due("count(1) of conditions", Texts.compiled("?1{!1;}:{!2;*3{@1=2;}}").count(1), 5);
        CHECK.due("count(1) of 300 steps", Texts.compiled("!1;".repeat(300)).count(1), 300);
        QueueBench bench = Texts.run("*a<9{a=a+1;}");
        CHECK.due("count(1) behind 9 times", bench.count(1), 2);
    }

    private static void proceduresOfTheProgram() {
        CHECK.sentence("2 procedures that it defines");
        CHECK.due("count(2) of no text", Texts.compiled("").count(2), 0);
        CHECK.due("count(2) of none", Texts.compiled("!1;").count(2), 0);
        CHECK.due("count(2) of an empty one", Texts.compiled("Z{}").count(2), 1);
        CHECK.due("count(2) of one that is called", Texts.compiled("A{!1;}A;A;").count(2), 1);
        CHECK.due("count(2) of two", Texts.compiled("B{}A{B;}").count(2), 2);
        StringBuilder all = new StringBuilder();
        for (char each = 'A'; each <= 'Z'; each++) {
            all.append(each).append("{}");
        }
        CHECK.due("count(2) of all", Texts.compiled(all.toString()).count(2), 26);
    }

    private static void withoutAProgram() {
        CHECK.sentence("(both 0 without a program)");
        for (Situation situation : new Situation[] {Situation.NEW, Situation.FED, Situation.BEHIND_A_FAULT}) {
            CHECK.due("count(1) " + situation, situation.make().count(1), 0);
            CHECK.due("count(2) " + situation, situation.make().count(2), 0);
        }
    }

    private static void valuesOfTheInput() {
        CHECK.sentence("3 values of the input");
        QueueBench bench = Texts.started("a=#;");
        CHECK.due("count(3) of none", bench.count(3), 0);
        bench.give(0);
        CHECK.due("count(3) of one", bench.count(3), 1);
        bench.run(1);
        CHECK.due("count(3) of one that was read", bench.count(3), 1);
        for (int k = 2; k <= 300; k++) {
            bench.give(k);
        }
        CHECK.due("count(3) of 300", bench.count(3), 300);
        bench.start();
        CHECK.due("count(3) behind start()", bench.count(3), 300);
    }

    private static void allAlongTheWay() {
        CHECK.sentence("count: all numbers along the way");
        QueueBench bench = new QueueBench();
        counts(bench, "of a new object", 0, 0, 0, 0);
        Texts.feed(bench, "Z{a=1;?a{!a;}:{}}B{*0{Z;}}C{}@1=2;B;");
        bench.give(4);
        counts(bench, "ahead of compile()", 36, 0, 0, 1);
        bench.compile();
        counts(bench, "behind compile()", 36, 7, 3, 1);
        bench.start();
        bench.run(1000);
        bench.feed(' ', '!', 0, 0, 0);
        bench.give(4);
        counts(bench, "behind run", 38, 7, 3, 2);
        bench.clear();
        counts(bench, "behind clear()", 0, 7, 3, 2);
        Texts.compile(bench, "A{}!1;}");
        counts(bench, "behind a fault", 7, 0, 0, 2);
        Texts.compile(bench, "A{}!1;");
        counts(bench, "behind another program", 6, 1, 1, 2);
    }

    private static void counts(QueueBench bench, String when, int... due) {
        for (int what = 0; what < due.length; what++) {
            CHECK.due("count(" + what + ") " + when, bench.count(what), due[what]);
        }
    }

    private static void wrongNumber() {
        CHECK.sentence("IllegalArgumentException: none of these");
        for (int what : new int[] {-1, 4, 5, 256, Integer.MIN_VALUE, Integer.MAX_VALUE}) {
            CHECK.refuses("count(" + what + ")", IllegalArgumentException.class, Situation.IN_A_CALL::make,
                    x -> x.count(what));
            CHECK.refuses("count(" + what + ") of a new object", IllegalArgumentException.class, QueueBench::new,
                    x -> x.count(what));
            CHECK.refuses("count(" + what + ") behind a fault", IllegalArgumentException.class,
                    Situation.BEHIND_A_FAULT::make, x -> x.count(what));
        }
    }
}
