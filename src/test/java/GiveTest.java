/** Promise 5: give. */
final class GiveTest {
    public static void main(String[] args) {
        Check check = new Check();
        valuesAreReadInTheirOrder(check);
        atMost300(check);
        valuesOutliveProgramAndText(check);
        check.end("GiveTest");
    }

    private static void valuesAreReadInTheirOrder(Check check) {
        QueueBench bench = Texts.started("a=#;b=#;c=#;");
        check.due("give(MIN_VALUE)", bench.give(Integer.MIN_VALUE), 1);
        check.due("give(0)", bench.give(0), 2);
        check.due("run(2)", bench.run(2), 2);
        check.due("give(-1)", bench.give(-1), 3);
        check.due("run(2)", bench.run(2), 1);
        check.due("name(0)", bench.name(0), Integer.MIN_VALUE);
        check.due("name(1)", bench.name(1), 0);
        check.due("name(2)", bench.name(2), -1);
    }

    private static void atMost300(Check check) {
        QueueBench bench = Texts.compiled("*1{a=#;}");
        for (int k = 1; k <= 300; k++) {
            check.due("give(" + 7 * k + ")", bench.give(7 * k), k);
        }
        check.refuses("the 301st", IllegalStateException.class, () -> bench.give(1));
        check.due("count(3)", bench.count(3), 300);
        bench.start();
        check.due("run(1000)", bench.run(1000), 601);
        check.due("state(0)", bench.state(0), 4);
        check.due("state(3)", bench.state(3), 300);
        check.due("name(0)", bench.name(0), 2100);
        check.refuses("what was read still counts", IllegalStateException.class, () -> bench.give(1));
    }

    private static void valuesOutliveProgramAndText(Check check) {
        QueueBench bench = Texts.started("!#;", 8, 9);
        bench.run(1);
        check.due("compile() with a fault", Texts.compile(bench, "!"), 2);
        check.due("count(3)", bench.count(3), 2);
        check.due("give(10)", bench.give(10), 3);
        check.due("compile()", Texts.compile(bench, "!#*100+#*10+#;"), 0);
        bench.start();
        bench.run(1);
        check.due("output(0)", bench.output(0), 900);
    }
}
