/** Promise 7: run, and what the statements and expressions do. */
final class RunTest {
    private static final Check CHECK = new Check();

    public static void main(String[] args) {
        values();
        conditionsAndLoops();
        calls();
        steps();
        troubles();
        stepWithTroubleDoesNothing();
        refused();
        CHECK.end("RunTest");
    }

    private static void value(String expression, int due, int... inputs) {
        QueueBench bench = Texts.started("a=7;b=-2;@7=70;@70=99;!" + expression + ";", inputs);
        CHECK.due("run(9) of " + expression, bench.run(9), 5);
        CHECK.due(expression, bench.output(0), due);
    }

    private static void values() {
        value("2147483647", Integer.MAX_VALUE);
        value("2147483647+1", Integer.MIN_VALUE);
        value("-2147483647-2", Integer.MAX_VALUE);
        value("65536*65536", 0);
        value("65537*65537", 131073);
        value("--2147483647", Integer.MAX_VALUE);
        value("-(-2147483647-1)", Integer.MIN_VALUE);
        value("(-2147483647-1)/-1", Integer.MIN_VALUE);
        value("(-2147483647-1)%-1", 0);
        value("7/2", 3);
        value("-7/2", -3);
        value("7/-2", -3);
        value("-7%2", -1);
        value("7%-2", 1);
        value("a/b*b+a%b", 7);
        value("10-4-3", 3);
        value("100/10/5", 2);
        value("100/10*5", 50);
        value("17%10*2", 14);
        value("2+3*4-5", 9);
        value("(2+3)*(4-5)", -5);
        value("-2*-3", 6);
        value("-a+1", -6);
        value("-(a+1)", -8);
        value("1<2", 1);
        value("2<2", 0);
        value("3<2", 0);
        value("-1<0", 1);
        value("2147483647+1<0", 1);
        value("2=2", 1);
        value("2=3", 0);
        value("1+1=2", 1);
        value("(1<2)+(2<3)*2", 3);
        value("(3=3)=1", 1);
        value("@a", 70);
        value("@@a", 99);
        value("@a+1", 71);
        value("@(a*10)", 99);
        value("-@a", -70);
        value("@-b", 0);
        value("@0", 0);
        value("#-#*#", -1, 5, 2, 3);
        value("#*10+#", 52, 5, 2);
        value("(#<#)*10+#", 19, 1, 2, 9);
        value("@#", 70, 7);
    }

    private static void outputs(String text, int... due) {
        QueueBench bench = Texts.started(text);
        bench.run(1000);
        CHECK.due("state(0) of " + text, bench.state(0), 1);
        CHECK.due("state(2) of " + text, bench.state(2), due.length);
        for (int k = 0; k < due.length && k < bench.state(2); k++) {
            CHECK.due("output(" + k + ") of " + text, bench.output(k), due[k]);
        }
    }

    private static void conditionsAndLoops() {
        outputs("?1{!1;}:{!2;}!3;", 1, 3);
        outputs("?0{!1;}:{!2;}!3;", 2, 3);
        outputs("?-5{!1;}!3;", 1, 3);
        outputs("?0{!1;}!3;", 3);
        outputs("?0{!1;}:{}!3;", 3);
        outputs("?1{}:{!2;}!3;", 3);
        outputs("?1{?0{!1;}:{?2{!2;}!3;}!4;}:{!5;}!6;", 2, 3, 4, 6);
        outputs("*a<3{a=a+1;!a;}!9;", 1, 2, 3, 9);
        outputs("*0{!1;}!9;", 9);
        outputs("*a<2{b=0;*b<2{!a*10+b;b=b+1;}a=a+1;}", 0, 1, 10, 11);
        outputs("*a<3{?a=1{!7;}:{!8;}a=a+1;}", 8, 7, 8);
        outputs("*a<2{a=a+1;?1{!a;}}", 1, 2);
        outputs("*a<2{a=a+1;?0{}:{!a;}}", 1, 2);
        outputs("a=3;*a{a=a-1;?a{?a{!a;}}}", 2, 1);
    }

    private static void calls() {
        outputs("A{!1;}!0;A;!2;A;", 0, 1, 2, 1);
        outputs("A{!1;}B{!2;A;!3;}C{B;B;}C;!4;", 2, 1, 3, 2, 1, 3, 4);
        outputs("A{}B{A;}C{B;}C;!1;", 1);
        outputs("A{a=a+1;?a<3{!a;}:{!-a;}}*a<4{A;}", 1, 2, -3, -4);
        outputs("A{*b<2{b=b+1;!b;}}A;!9;A;!8;", 1, 2, 9, 8);
        outputs("!1;A{!2;}!3;", 1, 3);
        StringBuilder chain = new StringBuilder("A{!1;}");
        for (char each = 'B'; each <= 'Z'; each++) {
            chain.append(each).append('{').append((char) (each - 1)).append(";}");
        }
        outputs(chain + "Z;!2;", 1, 2);
    }

    private static void steps() {
        QueueBench bench = Texts.started("A{}B{A;a=1;}?1{}*a<1{B;}A;");
        int[] places = {12, 16, 21, 5, 7, 16, 24, QueueBench.NONE};
        for (int k = 0; k < places.length; k++) {
            CHECK.due("state(4) at step " + k, bench.state(4), places[k]);
            CHECK.due("state(1) at step " + k, bench.state(1), k);
            CHECK.due("run(1) at step " + k, bench.run(1), k < 7 ? 1 : 0);
        }
        bench.start();
        CHECK.due("run(0)", bench.run(0), 0);
        CHECK.due("run(3)", bench.run(3), 3);
        CHECK.due("run(1000)", bench.run(1000), 4);
        CHECK.due("run(1000) at the end", bench.run(1000), 0);
        endlessLoop("*1{}", 0);
        endlessLoop("A{*2{}}A;", 2);
        endlessLoop("*1{?0{}}", 3);
    }

    private static void endlessLoop(String text, int place) {
        QueueBench bench = Texts.started(text);
        for (int k = 1; k <= 5; k++) {
            CHECK.due("run(1000) of " + text, bench.run(1000), 1000);
            CHECK.due("state(1) of " + text, bench.state(1), 1000 * k);
            CHECK.due("state(0) of " + text, bench.state(0), 0);
        }
        bench.run(1);
        CHECK.due("state(4) of " + text, bench.state(4), place);
    }

    private static void trouble(String text, int due, int... inputs) {
        QueueBench bench = Texts.started(text, inputs);
        bench.run(1000);
        CHECK.due("state(0) of " + text, bench.state(0), due);
    }

    private static void troubles() {
        trouble("!1/0;", 2);
        trouble("!1%0;", 2);
        trouble("!0/0;", 2);
        trouble("!0/1;", 1);
        trouble("!(-2147483647-1)/(1-1);", 2);
        trouble("!@100;", 3);
        trouble("!@99;", 1);
        trouble("!@-1;", 3);
        trouble("!@(-2147483647-1);", 3);
        trouble("@100=1;", 3);
        trouble("@-1=1;", 3);
        trouble("@99=1;", 1);
        trouble("!#;", 4);
        trouble("?#{}", 4);
        trouble("*1/0{}", 2);
        trouble("?0{!1/0;}:{!@100;}", 3);
        firstTroubleFromLeftToRight();
    }

    private static void firstTroubleFromLeftToRight() {
        trouble("!1/0+#;", 2);
        trouble("!#+1/0;", 4);
        trouble("!1/0+@100;", 2);
        trouble("!@100+1/0;", 3);
        trouble("!@100/0;", 3);
        trouble("!1/@100;", 3);
        trouble("!1/#;", 4);
        trouble("!#/#;", 4, 1);
        trouble("!1/#;", 2, 0);
        trouble("!1/(0*#);", 4);
        trouble("!@(1/0);", 2);
        trouble("!(1<2)+1/0*#;", 2);
        trouble("!1+#/0;", 4);
        trouble("@100=1/0;", 2);
        trouble("@100=#;", 4);
        trouble("@100=#;", 3, 5);
        trouble("@-1=@100/0;", 3);
        trouble("@(1/0)=#;", 2);
        trouble("@#=1/0;", 4);
        trouble("@#=1/0;", 2, 100);
        trouble("@@100=#;", 3);
        trouble("@@5=#;", 4);
    }

    private static void stepWithTroubleDoesNothing() {
        QueueBench bench = Texts.started("a=#;!a;@1=#;a=#+#+#/0;!5;", 3, 4, 5, 6, 7);
        CHECK.due("run(3)", bench.run(3), 3);
        CHECK.due("state(0) ahead of the trouble", bench.state(0), 0);
        CHECK.due("run(0)", bench.run(0), 0);
        CHECK.due("state(0) behind run(0)", bench.state(0), 0);
        for (int k = 0; k < 3; k++) {
            CHECK.due("run(1000)", bench.run(k == 0 ? 1000 : k), 0);
            CHECK.due("state(0)", bench.state(0), 2);
            CHECK.due("state(1)", bench.state(1), 3);
            CHECK.due("state(2)", bench.state(2), 1);
            CHECK.due("state(3)", bench.state(3), 2);
            CHECK.due("state(4)", bench.state(4), 12);
            CHECK.due("name(0)", bench.name(0), 3);
            CHECK.due("cell(1)", bench.cell(1), 4);
        }
        QueueBench put = Texts.started("!1;!2/0;");
        CHECK.due("run(9)", put.run(9), 1);
        CHECK.due("state(2)", put.state(2), 1);
        QueueBench dry = Texts.started("!#;!#+#;", 1, 2);
        CHECK.due("run(9) with too little input", dry.run(9), 1);
        dry.give(3);
        CHECK.due("run(9) when it is too late", dry.run(9), 0);
        CHECK.due("state(3)", dry.state(3), 1);
    }

    private static void refused() {
        QueueBench bench = Texts.compiled("!1;!2;!3;");
        for (int n : new int[] {-1, 1001, Integer.MIN_VALUE, Integer.MAX_VALUE}) {
            CHECK.refuses("run(" + n + ") ahead of start()", IllegalArgumentException.class, () -> bench.run(n));
        }
        CHECK.refuses("run(0) ahead of start()", IllegalStateException.class, () -> bench.run(0));
        CHECK.refuses("run(1000) ahead of start()", IllegalStateException.class, () -> bench.run(1000));
        bench.start();
        bench.run(1);
        for (int n : new int[] {-1, 1001, Integer.MIN_VALUE, Integer.MAX_VALUE}) {
            CHECK.refuses("run(" + n + ")", IllegalArgumentException.class, () -> bench.run(n));
        }
        CHECK.due("state(1)", bench.state(1), 1);
        CHECK.due("run(1000)", bench.run(1000), 2);
    }
}
