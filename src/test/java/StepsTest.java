/** Terms: what a step is. */
final class StepsTest {
    private static final Check CHECK = new Check();

    public static void main(String[] args) {
        statementsAreOneEach();
        conditionsAreOneEach();
        loopsAreOneEachTime();
        callIsOneAndThoseOfItsBlock();
        loopsWithoutEnd();
        CHECK.end("StepsTest");
    }

    private static void steps(String text, int due) {
        QueueBench bench = Texts.started(text, 1, 2, 3);
        CHECK.due("run(1000) of " + text, bench.run(1000), due);
        CHECK.due("state(1) of " + text, bench.state(1), due);
        CHECK.due("state(0) of " + text, bench.state(0), 1);
    }

    private static void statementsAreOneEach() {
        CHECK.sentence("STEPS are statements, one each");
        steps("", 0);
        steps("a=1;", 1);
        steps("@1=2;", 1);
        steps("!#+#*#;", 1);
        steps("a=1;@1=2;!3;", 3);
        steps("!1;".repeat(300), 300);
    }

    private static void conditionsAreOneEach() {
        CHECK.sentence("and conditions (\"?\")");
        steps("?1{}", 1);
        steps("?0{}", 1);
        steps("?1{!1;}", 2);
        steps("?0{!1;}", 1);
        steps("?0{!1;}:{!2;!3;}", 3);
        steps("?1{?1{?1{}}}", 3);
    }

    private static void loopsAreOneEachTime() {
        CHECK.sentence("(\"*\" each time)");
        steps("*0{}", 1);
        steps("*0{!1;}", 1);
        steps("a=1;*a{a=0;}", 4);
        steps("*a<3{a=a+1;}", 7);
        steps("*a<3{a=a+1;b=0;*b<2{b=b+1;}}", 25);
    }

    private static void callIsOneAndThoseOfItsBlock() {
        CHECK.sentence("a call is one, and those of its block");
        steps("A{}A;", 1);
        steps("A{!1;}A;", 2);
        steps("A{!1;}A;A;", 4);
        steps("A{!1;!2;}B{A;A;}B;", 7);
        steps("A{?1{!1;}}*a<2{a=a+1;A;}", 11);
        steps("A{!1;}", 0);
        QueueBench bench = Texts.started("A{!1;}A;!2;");
        bench.run(1);
        CHECK.due("state(2) behind the call's own step", bench.state(2), 0);
        CHECK.due("state(4) behind the call's own step", bench.state(4), 2);
        bench.run(1);
        CHECK.due("state(2) behind its block's step", bench.state(2), 1);
        CHECK.due("state(4) behind its block's step", bench.state(4), 8);
    }

    private static void loopsWithoutEnd() {
        CHECK.sentence("(run:) at most so many steps (of a loop without an end)");
        endless("*1{}", 0);
        endless("A{*2{}}A;", 2);
        endless("*1{?0{}}", 3);
        endless("A{}*1{A;}", 6);
    }

    private static void endless(String text, int place) {
        QueueBench bench = Texts.started(text);
        for (int k = 1; k <= 5; k++) {
            CHECK.due("run(1000) of " + text, bench.run(1000), 1000);
            CHECK.due("state(1) of " + text, bench.state(1), 1000 * k);
            CHECK.due("state(0) of " + text, bench.state(0), 0);
        }
        bench.run(1);
        CHECK.due("state(4) of " + text, bench.state(4), place);
    }
}
