/** Promise 4: compile, and what a fault is. */
final class CompileTest {
    private static final Check CHECK = new Check();

    public static void main(String[] args) {
        words();
        statements();
        expressions();
        blocks();
        numbers();
        procedures();
        nesting();
        statementsOfOneProgram();
        factorsOfOneStatement();
        whatCompileChanges();
        CHECK.end("CompileTest");
    }

    private static void good(String text) {
        CHECK.due("compile() of " + text, Texts.compile(new QueueBench(), text), 0);
    }

    private static void fault(String text, int place) {
        CHECK.due("compile() of " + text, Texts.compile(new QueueBench(), text), place + 1);
    }

    private static void words() {
        good("");
        good(" \n\n ");
        good(" a = 1 + 2\n;\n@ 3 = - a ; ");
        good("A \n { } A\n;");
        fault("a\t=1;", 1);
        fault("\r", 0);
        fault("\u0001", 0);
        fault("a=1;\u0001", 4);
        fault("a=1\u0001;", 3);
        fault("a=1 2;", 4);
        fault("a=1\n2;", 4);
        fault("a=b c;", 4);
        fault("a=bc;", 3);
        fault("a=1b;", 3);
        fault("a=b1;", 3);
        fault("ab=1;", 1);
        fault("a=1;\u00ff", 4);
        fault("_", 0);
        fault("  a", 3);
        fault("  a  ", 5);
        good("a=1; \n");
    }

    private static void statements() {
        for (String sign : new String[] {"1", "=", ";", ":", "{", "}", "(", ")", "+", "-", "/", "%", "<", "#", "&"}) {
            fault(sign, 0);
            fault("a=1; " + sign, 5);
        }
        for (String start : new String[] {"a", "a=", "a=1", "@", "@1", "@1=", "@1=2", "!", "!1", "?", "?1",
                "?1{", "?1{}:", "?1{}:{", "*", "*1", "*1{", "A{", "A{a=1;"}) {
            fault(start, start.length());
        }
        fault("a+1;", 1);
        fault("a==1;", 2);
        fault("a=;", 2);
        fault("a=1;;", 4);
        fault("@=1;", 1);
        fault("@1+1=2;", 2);
        fault("@1<1=2;", 2);
        fault("@1;", 2);
        fault("!;", 1);
        fault("!=1;", 1);
        fault("#=1;", 0);
        fault("a=1:", 3);
        good("@(1+1)=2;");
        good("@-1=2;");
        good("@@@a=@@b;");
        good("@1=2=3;");
        good("@#=#;");
    }

    private static void expressions() {
        good("a=b=c;");
        good("a=b<c;");
        good("a=(b<c)<d;");
        good("a=b<(c=d);");
        good("a=((b<c)=(d<e))<f;");
        good("a=---b*-@-c/@@d%#;");
        good("a=b+c-d*e/f%g;");
        fault("a=b=c=d;", 5);
        fault("a=b<c<d;", 5);
        fault("a=b<c+d=e;", 7);
        fault("a=(b<c<d);", 6);
        fault("a=(b<(c)=d);", 8);
        fault("a=b<=c;", 4);
        fault("a=b>c;", 3);
        fault("a=+b;", 2);
        fault("a=b+;", 4);
        fault("a=b+*c;", 4);
        fault("a=();", 3);
        fault("a=(b;", 4);
        fault("a=b);", 3);
        fault("a=(b));", 5);
        fault("a=(b)(c);", 5);
        fault("a=b@c;", 3);
        fault("a=b#;", 3);
        fault("a=##;", 3);
        fault("a=B;", 2);
        fault("B{}a=B;", 5);
        fault("a=(b{", 4);
        fault("a=b{", 3);
        fault("a=b}", 3);
    }

    private static void blocks() {
        good("?a{}");
        good("?a{}:{}");
        good("?a{}?b{}:{}");
        good("?a{?b{}:{}}:{?c{}}");
        good("*a{}*b{*c{}}");
        good("?a*b{}*c{}");
        good("?(a)<-b{!1;}:{!2;}!3;");
        fault("?{}", 1);
        fault("?a;", 2);
        fault("?(a{})", 3);
        fault("?a!1;", 2);
        fault("?a{}:!1;", 5);
        fault("?a{}:{}:{}", 7);
        fault("?a{}!1;:{}", 7);
        fault("?a{?b{}:{}:{}}", 10);
        fault("*a{}:{}", 4);
        fault("A{}:{}", 3);
        fault("?a{}}", 4);
        fault("?a{};", 4);
        fault("?a{!1}", 5);
        fault("?a{?b{}", 7);
        fault("{}", 0);
        fault("?a{{}}", 3);
        fault("?a=b=c{}", 4);
    }

    private static void numbers() {
        good("a=2147483647;");
        good("a=" + "0".repeat(2900) + "2147483647;");
        fault("a=2147483648;", 2);
        fault("a=-2147483648;", 3);
        fault("a=1+9999999999;", 4);
        fault("a=4294967296;", 2);
        fault("a=18446744073709551616;", 2);
        fault("a=" + "9".repeat(2990), 2);
        fault("a=99999999990 1", 2);
        fault("a=1 9999999999;", 4);
    }

    private static void procedures() {
        good("A{}A;");
        good("A{}B{A;A;}Z{B;?a{A;}}*a{Z;}A;");
        good("A{}\n?a{A;}");
        fault("A", 0);
        fault(" A ", 1);
        fault("A;", 0);
        fault("A}", 0);
        fault("B{}A;", 3);
        fault("AB{}", 0);
        fault("A 9999999999", 0);
        fault("A{A;}", 2);
        fault("A{B;}B{}", 2);
        fault("A{B{}}", 2);
        fault("A{}B{A{}}", 6);
        fault("A{}B{A", 6);
        fault("A{?a{A;}}", 5);
        fault("?a{A;}", 3);
        fault("?a{A{}}", 3);
        fault("A{}A{}", 3);
        fault("A{}A {", 3);
        fault("A{}A", 4);
        fault("A{}A  ", 6);
        fault("A{}A=1;", 4);
        fault("A{}?a{A{}}", 7);
        fault("A{}B{}A;B;C;", 10);
        fault("A{!1;", 5);
        good("A{}B{}C{}D{}E{}F{}G{}H{}I{}J{}K{}L{}M{}N{}O{}P{}Q{}R{}S{}T{}U{}V{}W{}X{}Y{}Z{}");
    }

    private static void nesting() {
        good("?a{".repeat(20) + "}".repeat(20));
        fault("?a{".repeat(21) + "}".repeat(21), 62);
        good("*a{".repeat(20) + "}".repeat(20) + "?a{}:{" + "?b{".repeat(19) + "}".repeat(20));
        fault("?a{}:{" + "?b{".repeat(20), 65);
        good("?a{".repeat(19) + "?b{}:{}" + "}".repeat(19));
        fault("?a{".repeat(20) + "?b", 62);
        good("A{" + "?a{".repeat(19) + "}".repeat(20));
        fault("A{" + "?a{".repeat(20) + "}".repeat(21), 61);
        good("a=" + "(".repeat(20) + "b" + ")".repeat(20) + ";");
        fault("a=" + "(".repeat(21) + "b" + ")".repeat(21) + ";", 22);
        good("a=" + "(".repeat(20) + "b" + ")".repeat(20) + "+" + "(".repeat(20) + "b" + ")".repeat(20) + ";");
        fault("a=" + "-(".repeat(21), 43);
        good("@" + "(".repeat(20) + "b" + ")".repeat(20) + "=" + "(".repeat(20) + "b" + ")".repeat(20) + ";");
        fault("@" + "(".repeat(21), 21);
        good("?a{".repeat(19) + "?" + "(".repeat(20) + "b" + ")".repeat(20) + "{" + "}".repeat(20));
    }

    private static void statementsOfOneProgram() {
        good("!1;".repeat(300));
        good("a=1+1+1+1;".repeat(300));
        fault("a=1+1+1+1;".repeat(299) + "a=1+1+1+1+", 3000);
        fault("!1;".repeat(301), 900);
        good("!1;".repeat(300) + "A{}B{}");
        fault("!1;".repeat(300) + "A{!", 902);
        fault("A{" + "!1;".repeat(150) + "}" + "!1;".repeat(150) + " A;", 904);
        fault("A{" + "!1;".repeat(150) + "}" + "!1;".repeat(150) + "?a{", 903);
        good("?a{!1;!2;}:{!3;}".repeat(75));
        fault("?a{!1;!2;}:{!3;}".repeat(75) + "a", 1200);
        fault("?a{!1;!2;}:{!3;}".repeat(75) + ";", 1200);
        fault("*a{!1;!2;".repeat(20) + "!1;".repeat(240) + "  @", 902);
        fault("A{}?a{" + "!1;".repeat(299) + "A{", 903);
        good("A{}" + "A;".repeat(300));
        fault("A{}" + "A;".repeat(301), 603);
    }

    private static void factorsOfOneStatement() {
        good("a=" + "b+".repeat(59) + "b;");
        fault("a=" + "b+".repeat(60) + "b;", 122);
        fault("a=" + "b+".repeat(60) + ";", 122);
        good("a=" + "-".repeat(59) + "b;");
        fault("a=" + "-".repeat(60) + "b;", 62);
        fault("a=" + "-".repeat(61), 62);
        good("a=" + "@".repeat(59) + "b;");
        fault("a=" + "@".repeat(60) + "b;", 62);
        good("!" + "(#)*".repeat(29) + "(1);");
        fault("!" + "(#)*".repeat(30) + "1;", 121);
        good("@" + "-".repeat(29) + "1=" + "-".repeat(29) + "1;");
        fault("@" + "-".repeat(29) + "1=" + "-".repeat(30) + "1;", 62);
        fault("@" + "-".repeat(30) + "1=" + "-".repeat(29) + "1;", 62);
        fault("@(" + "1+".repeat(58) + "1)=0;", 121);
        good("@(" + "1+".repeat(57) + "1)=0;");
        good("?" + "a+".repeat(59) + "a{!" + "b+".repeat(59) + "b;}");
        fault("?" + "a+".repeat(60) + "a{}", 121);
        fault("*" + "a+".repeat(60) + "a{}", 121);
        good(("!" + "-".repeat(59) + "1;").repeat(48));
        fault("a=" + "b+".repeat(60) + "9999999999;", 122);
    }

    private static void whatCompileChanges() {
        QueueBench bench = new QueueBench();
        CHECK.due("compile() of no text", bench.compile(), 0);
        bench.start();
        CHECK.due("state(0) of no text", bench.state(0), 1);
        Texts.feed(bench, "a=1;b=2;");
        CHECK.due("state(0) is still of the old program", bench.state(0), 1);
        CHECK.due("compile()", bench.compile(), 0);
        CHECK.refuses("state(0) ahead of start()", IllegalStateException.class, () -> bench.state(0));
        bench.start();
        bench.run(1);
        CHECK.due("compile() of the same text", bench.compile(), 0);
        CHECK.refuses("run(1) ahead of start()", IllegalStateException.class, () -> bench.run(1));
        bench.start();
        CHECK.due("run(9)", bench.run(9), 2);
        bench.feed('c', 0, 0, 0, 0);
        CHECK.due("compile() with a fault", bench.compile(), 10);
        CHECK.refuses("start() behind a fault", IllegalStateException.class, bench::start);
        bench.feed('=', '3', ';', 0, 0);
        CHECK.due("compile() of the mended text", bench.compile(), 0);
        bench.start();
        CHECK.due("run(9) of the mended text", bench.run(9), 3);
        oldProgramLeavesNoTrace(bench);
    }

    private static void oldProgramLeavesNoTrace(QueueBench bench) {
        CHECK.due("compile() with A", Texts.compile(bench, "A{!1;}A;?1{!2;}:{!3;}"), 0);
        CHECK.due("compile() with A, not defined now", Texts.compile(bench, "A;"), 1);
        CHECK.due("compile() in an open block", Texts.compile(bench, "A{?a{*b{(("), 9);
        CHECK.due("compile() in an open expression", Texts.compile(bench, "@((-"), 5);
        CHECK.due("compile() of another expression", Texts.compile(bench, "!-(7);"), 0);
        bench.start();
        bench.run(1);
        CHECK.due("output(0) of another expression", bench.output(0), -7);
        CHECK.due("compile() with A again", Texts.compile(bench, "A{}?1{}A;"), 0);
        bench.start();
        CHECK.due("run(9) with empty blocks", bench.run(9), 2);
        CHECK.due("state(0)", bench.state(0), 1);
        CHECK.due("count(2)", bench.count(2), 1);
    }
}
