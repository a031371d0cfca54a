/** Promise 5: give. */
final class GiveTest {
    private static final Check CHECK = new Check();

    public static void main(String[] args) {
        aValueComesBehindTheInput();
        howManyThereAre();
        upTo300();
        moreThan300();
        inputStaysAtARefusedGive();
        valuesOutliveProgramAndText();
        CHECK.end("GiveTest");
    }

    private static void aValueComesBehindTheInput() {
        CHECK.sentence("A value comes behind the input");
        QueueBench bench = Texts.started("a=#;b=#;c=#;d=#;");
        bench.give(Integer.MIN_VALUE);
        bench.give(0);
        CHECK.due("run(2)", bench.run(2), 2);
        bench.give(-1);
        bench.give(Integer.MAX_VALUE);
        CHECK.due("run(2)", bench.run(2), 2);
        CHECK.due("name(0)", bench.name(0), Integer.MIN_VALUE);
        CHECK.due("name(1)", bench.name(1), 0);
        CHECK.due("name(2)", bench.name(2), -1);
        CHECK.due("name(3)", bench.name(3), Integer.MAX_VALUE);
    }

    private static void howManyThereAre() {
        CHECK.sentence("how many there are");
        QueueBench bench = Texts.started("a=#;");
        CHECK.due("give(0)", bench.give(0), 1);
        CHECK.due("give(5)", bench.give(5), 2);
        bench.run(1);
        CHECK.due("give behind what was read", bench.give(6), 3);
        bench.start();
        CHECK.due("give behind start()", bench.give(7), 4);
    }

    private static QueueBench with(int values) {
        QueueBench bench = Texts.compiled("a=a*3+#;*1{a=a*3+#;}");
        for (int k = 1; k <= values; k++) {
            bench.give(7 * k);
        }
        return bench;
    }

    private static void upTo300() {
        CHECK.sentence("(give: there may be 300)");
        CHECK.due("the 299th", with(298).give(1), 299);
        CHECK.due("the 300th", with(299).give(1), 300);
        QueueBench bench = with(300);
        CHECK.due("count(3)", bench.count(3), 300);
        allAreRead(bench);
    }

    private static void allAreRead(QueueBench bench) {
        bench.start();
        CHECK.due("run(1000)", bench.run(1000), 600);
        CHECK.due("state(0)", bench.state(0), 4);
        CHECK.due("state(3)", bench.state(3), 300);
        int due = 0;
        for (int k = 1; k <= 300; k++) {
            due = due * 3 + 7 * k;
        }
        CHECK.due("name(0)", bench.name(0), due);
    }

    private static void moreThan300() {
        CHECK.sentence("IllegalStateException: there are 300");
        for (int v : new int[] {1, 0, -1, Integer.MIN_VALUE, Integer.MAX_VALUE}) {
            CHECK.refuses("give(" + v + ")", IllegalStateException.class, () -> with(300), x -> x.give(v));
        }
        CHECK.refuses("give(1) when all was read", IllegalStateException.class, GiveTest::allRead, x -> x.give(1));
        QueueBench bench = allRead();
        bench.compile();
        CHECK.refuses("give(1) behind compile()", IllegalStateException.class, () -> bench.give(1));
        bench.clear();
        CHECK.refuses("give(1) behind clear()", IllegalStateException.class, () -> bench.give(1));
        CHECK.due("count(3)", bench.count(3), 300);
    }

    private static void inputStaysAtARefusedGive() {
        CHECK.sentence("Such a call changes nothing (give)");
        QueueBench bench = with(300);
        for (int v : new int[] {1, 0, -1, Integer.MIN_VALUE, Integer.MAX_VALUE}) {
            CHECK.refuses("give(" + v + ")", IllegalStateException.class, () -> bench.give(v));
            CHECK.due("count(3)", bench.count(3), 300);
        }
        allAreRead(bench);
    }

    private static QueueBench allRead() {
        QueueBench bench = with(300);
        bench.start();
        bench.run(1000);
        return bench;
    }

    private static void valuesOutliveProgramAndText() {
        CHECK.sentence("(start:) the given values stay");
        QueueBench bench = Texts.started("!#;", 8, 9);
        bench.run(1);
        CHECK.due("compile() with a fault", Texts.compile(bench, "!"), 2);
        CHECK.due("count(3)", bench.count(3), 2);
        CHECK.due("give(10)", bench.give(10), 3);
        CHECK.due("compile()", Texts.compile(bench, "!#*100+#*10+#;"), 0);
        bench.start();
        bench.run(1);
        CHECK.due("output(0)", bench.output(0), 900);
    }
}
