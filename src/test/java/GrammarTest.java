/** Terms: the grammar, and the first word at which a text is no beginning of a program any more. */
final class GrammarTest {
    private static final Check CHECK = new Check();
    private static final Faults TEXTS = new Faults(CHECK);

    public static void main(String[] args) {
        programs();
        definitions();
        blocks();
        assignments();
        cellAssignments();
        putsOut();
        calls();
        conditions();
        loops();
        expressions();
        sumsAndTerms();
        factors();
        firstWordThatDoesNotFit();
        textsThatEndTooSoon();
        CHECK.end("GrammarTest");
    }

    private static void programs() {
        CHECK.sentence("program = { statement | definition }");
        TEXTS.good("");
        TEXTS.good("a=1;");
        TEXTS.good("A{}");
        TEXTS.good("a=1;A{}b=2;B{}A;");
        TEXTS.fault("a=1;}", 4);
        TEXTS.fault("A{}}", 3);
        TEXTS.fault("a=1;;", 4);
    }

    private static void definitions() {
        CHECK.sentence("definition = procedure block");
        TEXTS.good("A{!1;!2;}");
        TEXTS.fault("A{}:{}", 3);
        TEXTS.fault("A{};", 3);
        TEXTS.fault("A{}{}", 3);
        TEXTS.fault("?a{B{}}", 3);
    }

    private static void blocks() {
        CHECK.sentence("block = \"{\" { statement } \"}\"");
        TEXTS.good("?a{}");
        TEXTS.good("?a{!1;}");
        TEXTS.good("?a{!1;?b{}*c{!2;}@1=2;}");
        TEXTS.fault("{}", 0);
        TEXTS.fault("?a{{}}", 3);
        TEXTS.fault("?a{!1}", 5);
        TEXTS.fault("?a{;}", 3);
        TEXTS.fault("?a{}}", 4);
    }

    private static void assignments() {
        CHECK.sentence("statement = name \"=\" expression \";\"");
        TEXTS.good("a=b=c;");
        TEXTS.fault("a+1;", 1);
        TEXTS.fault("a1;", 1);
        TEXTS.fault("a;", 1);
        TEXTS.fault("a<1;", 1);
        TEXTS.fault("a==1;", 2);
        TEXTS.fault("a=;", 2);
        TEXTS.fault("a=1:", 3);
        TEXTS.fault("a=1{", 3);
        TEXTS.fault("a=1}", 3);
    }

    private static void cellAssignments() {
        CHECK.sentence("| \"@\" factor \"=\" expression \";\"");
        TEXTS.good("@(1+1)=2;");
        TEXTS.good("@-1=2;");
        TEXTS.good("@@@a=@@b;");
        TEXTS.good("@1=2=3;");
        TEXTS.good("@#=#;");
        TEXTS.good("@(a=b)=c<d;");
        TEXTS.fault("@=1;", 1);
        TEXTS.fault("@1+1=2;", 2);
        TEXTS.fault("@1*1=2;", 2);
        TEXTS.fault("@1<1=2;", 2);
        TEXTS.fault("@1=2=3=4;", 6);
        TEXTS.fault("@1;", 2);
        TEXTS.fault("@(1)(2)=3;", 4);
        TEXTS.fault("@a b=3;", 3);
        TEXTS.fault("@1=;", 3);
        TEXTS.fault("@1=2{", 4);
    }

    private static void putsOut() {
        CHECK.sentence("| \"!\" expression \";\"");
        TEXTS.good("!a<b;");
        TEXTS.fault("!;", 1);
        TEXTS.fault("!=1;", 1);
        TEXTS.fault("!1=2=3;", 4);
        TEXTS.fault("!1{", 2);
    }

    private static void calls() {
        CHECK.sentence("| procedure \";\"");
        TEXTS.good("A{}A;?a{A;}");
        TEXTS.fault("A{}A=1;", 4);
        TEXTS.fault("A{}A", 4);
        TEXTS.fault("A{}A!1;", 4);
        TEXTS.fault("A{}?a{A}", 7);
        TEXTS.fault("A{}?a{A{}}", 7);
    }

    private static void conditions() {
        CHECK.sentence("| \"?\" expression block [ \":\" block ]");
        TEXTS.good("?a{}:{}");
        TEXTS.good("?a{}?b{}:{}");
        TEXTS.good("?a{?b{}:{}}:{?c{}}");
        TEXTS.good("?(a)<-b{!1;}:{!2;}!3;");
        TEXTS.good("?a{?b{}}:{}");
        TEXTS.fault("?{}", 1);
        TEXTS.fault("?a;", 2);
        TEXTS.fault("?(a{})", 3);
        TEXTS.fault("?a!1;", 2);
        TEXTS.fault("?a:{}", 2);
        TEXTS.fault("?a{}:!1;", 5);
        TEXTS.fault("?a{}:?b{}", 5);
        TEXTS.fault("?a{}:{}:{}", 7);
        TEXTS.fault("?a{}!1;:{}", 7);
        TEXTS.fault("?a{?b{}:{}:{}}", 10);
        TEXTS.fault("?a{:{}}", 3);
        TEXTS.fault("?a{};", 4);
        TEXTS.fault("?a=b=c{}", 4);
        TEXTS.fault("?a{}::{}", 5);
    }

    private static void loops() {
        CHECK.sentence("| \"*\" expression block");
        TEXTS.good("*a{}*b{*c{}}");
        TEXTS.good("?a*b{}*c{}");
        TEXTS.fault("*{}", 1);
        TEXTS.fault("*a;", 2);
        TEXTS.fault("*a{}:{}", 4);
        TEXTS.fault("?a{*b{}:{}}", 7);
        TEXTS.fault("*a{};", 4);
    }

    private static void expressions() {
        CHECK.sentence("expression = sum [ ( \"<\" | \"=\" ) sum ]");
        TEXTS.good("a=b<c;");
        TEXTS.good("a=b+1<c*2;");
        TEXTS.good("a=(b<c)<d;");
        TEXTS.good("a=b<(c=d);");
        TEXTS.good("a=((b<c)=(d<e))<f;");
        TEXTS.fault("a=b=c=d;", 5);
        TEXTS.fault("a=b<c<d;", 5);
        TEXTS.fault("a=b<c+d=e;", 7);
        TEXTS.fault("a=(b<c<d);", 6);
        TEXTS.fault("a=(b<(c)=d);", 8);
        TEXTS.fault("a=b<=c;", 4);
        TEXTS.fault("a=b>c;", 3);
        TEXTS.fault("a=b<;", 4);
        TEXTS.fault("a=<b;", 2);
    }

    private static void sumsAndTerms() {
        CHECK.sentence("sum = term { ( \"+\" | \"-\" ) term }. term = factor { ( \"*\" | \"/\" | \"%\" ) factor }");
        TEXTS.good("a=b+c-d*e/f%g;");
        TEXTS.good("a=b--c+-d*-e;");
        TEXTS.fault("a=+b;", 2);
        TEXTS.fault("a=*b;", 2);
        TEXTS.fault("a=b+;", 4);
        TEXTS.fault("a=b%;", 4);
        TEXTS.fault("a=b+*c;", 4);
        TEXTS.fault("a=b*+c;", 4);
        TEXTS.fault("a=b-+c;", 4);
        TEXTS.fault("a=-+c;", 3);
    }

    private static void factors() {
        CHECK.sentence("factor = number | name | \"(\" expression \")\" | \"-\" factor | \"@\" factor | \"#\"");
        TEXTS.good("a=---b*-@-c/@@d%#;");
        TEXTS.good("a=((1));");
        TEXTS.good("a=-(1);");
        TEXTS.good("a=@(1)+@#;");
        TEXTS.fault("a=();", 3);
        TEXTS.fault("a=(b;", 4);
        TEXTS.fault("a=b);", 3);
        TEXTS.fault("a=(b));", 5);
        TEXTS.fault("a=(b)(c);", 5);
        TEXTS.fault("a=b@c;", 3);
        TEXTS.fault("a=b#;", 3);
        TEXTS.fault("a=##;", 3);
        TEXTS.fault("a=#1;", 3);
        TEXTS.fault("a=-;", 3);
        TEXTS.fault("a=@;", 3);
        TEXTS.fault("a=!b;", 2);
        TEXTS.fault("a=B;", 2);
        TEXTS.fault("B{}a=B;", 5);
        TEXTS.fault("a=(b{", 4);
    }

    private static void firstWordThatDoesNotFit() {
        CHECK.sentence("A FAULT is the first word, by its first sign's place");
        TEXTS.fault("a 1234;", 2);
        TEXTS.fault("a=1  5678 ;", 5);
        TEXTS.fault("  99", 2);
        TEXTS.fault("a=1;\n\n)", 6);
        TEXTS.fault("a=1 ) ) ;", 4);
        TEXTS.fault("a=; b=; c=;", 2);
        TEXTS.fault("!1; !2; ! ; A; 9999999999", 10);
    }

    private static void textsThatEndTooSoon() {
        CHECK.sentence("(the text's length at its end)");
        for (String start : new String[] {"a", "a=", "a=1", "a=1+", "a=-", "a=(1", "a=1<", "@", "@1", "@(", "@1=",
            "@1=2", "!", "!1", "?", "?1", "?1{", "?1{}:", "?1{}:{", "*", "*1", "*1{", "*1{!1;", "A{", "A{a=1;",
            "A{?1{}", "A{}A"}) {
            TEXTS.fault(start, start.length());
            TEXTS.fault(start + "  \n", start.length() + 3);
            TEXTS.fault("\n" + start, start.length() + 1);
        }
        TEXTS.fault("!1" + " ".repeat(2998), 3000);
    }
}
