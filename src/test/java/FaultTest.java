/** Terms: the faults that the grammar alone does not tell. */
final class FaultTest {
    private static final Check CHECK = new Check();
    private static final Faults TEXTS = new Faults(CHECK);

    public static void main(String[] args) {
        notDefinedAheadInABlock();
        notDefinedAheadOutsideBlocks();
        ownDefinitionEndsWithItsBlock();
        definedTwice();
        blocksInTwentyOthers();
        parenthesesInTwentyOthers();
        blocksAndParenthesesAreCountedApart();
        statementsOfAProgram();
        factorsOfAStatement();
        whatIsAFactor();
        conditionIsOneByItself();
        numberAndValueOfACellAreOne();
        CHECK.end("FaultTest");
    }

    private static void notDefinedAheadInABlock() {
        CHECK.sentence("a procedure's name that was not defined ahead, if it is in a block");
        TEXTS.fault("?a{A;}", 3);
        TEXTS.fault("?a{A{}}", 3);
        TEXTS.fault("?a{ A {", 4);
        TEXTS.fault("?a{}:{A;}", 6);
        TEXTS.fault("*a{*b{A;}}", 6);
        TEXTS.fault("A{B;}B{}", 2);
        TEXTS.fault("A{B{}}", 2);
        TEXTS.fault("B{}?a{B;A;}", 8);
        TEXTS.fault("?a{A;}A{}", 3);
    }

    private static void notDefinedAheadOutsideBlocks() {
        CHECK.sentence("or the word behind it is not \"{\"");
        TEXTS.fault("A;", 0);
        TEXTS.fault("A;A{}", 0);
        TEXTS.fault("A}", 0);
        TEXTS.fault("A=1;", 0);
        TEXTS.fault("AA{}", 0);
        TEXTS.fault("B{}A;", 3);
        TEXTS.fault("A{}B{}A;B;C;", 10);
        TEXTS.fault("?a{} A \n;", 5);
        TEXTS.fault("A 9999999999", 0);
        TEXTS.fault("A", 0);
        TEXTS.fault(" A ", 1);
        TEXTS.good("A\n \n{}");
        TEXTS.good("?a{}A{}A;");
    }

    private static void ownDefinitionEndsWithItsBlock() {
        CHECK.sentence("(its own definition ends with its block)");
        TEXTS.fault("A{A;}", 2);
        TEXTS.fault("A{A{}}", 2);
        TEXTS.fault("A{?a{A;}}", 5);
        TEXTS.fault("A{?a{}A;}", 6);
        TEXTS.fault("B{}A{B;A;}", 7);
        TEXTS.good("A{}A;");
        TEXTS.good("A{?a{}}B{A;}?a{A;B;}");
    }

    private static void definedTwice() {
        CHECK.sentence("one that was, if it is not in a block, and that word is \"{\"");
        TEXTS.fault("A{}A{}", 3);
        TEXTS.fault("A{}A {", 3);
        TEXTS.fault("A{}B{}!1; A{", 10);
        TEXTS.fault("Z{!1;}Z{!1;}", 6);
        TEXTS.fault("A{}B{A{}}", 6);
        TEXTS.fault("A{}?a{A{}}", 7);
        TEXTS.fault("A{}B{A", 6);
    }

    private static void blocksInTwentyOthers() {
        CHECK.sentence("a block that would be nested in twenty others of its kind");
        TEXTS.good("?a{".repeat(20) + "}".repeat(20));
        TEXTS.good("*a{".repeat(20) + "!1;" + "}".repeat(20));
        TEXTS.fault("?a{".repeat(21) + "}".repeat(21), 62);
        TEXTS.fault("*a{".repeat(21), 62);
        TEXTS.fault("?a{".repeat(20) + "?a {", 63);
        TEXTS.fault("?a{".repeat(20) + "?a;", 62);
        TEXTS.good("A{" + "?a{".repeat(19) + "}".repeat(20));
        TEXTS.fault("A{" + "?a{".repeat(20) + "}".repeat(21), 61);
        TEXTS.good("?a{}:{".repeat(20) + "}".repeat(20));
        TEXTS.fault("?a{}:{".repeat(20) + "?b{", 122);
        TEXTS.good("?a{".repeat(19) + "?b{}:{}" + "}".repeat(19));
        TEXTS.good(("?a{".repeat(20) + "}".repeat(20)).repeat(3));
        TEXTS.fault("?a{".repeat(20) + "}".repeat(20) + "?a{".repeat(21), 142);
        TEXTS.good("?a{".repeat(20) + "}".repeat(20) + ":{" + "?a{".repeat(19) + "}".repeat(20));
        TEXTS.good("?a{".repeat(19) + "?b{}?c{}".repeat(10) + "}".repeat(19));
    }

    private static void parenthesesInTwentyOthers() {
        CHECK.sentence("a parenthesis that would be nested in twenty others of its kind");
        String open = "(".repeat(20);
        String close = ")".repeat(20);
        TEXTS.good("a=" + open + "b" + close + ";");
        TEXTS.fault("a=(" + open + "b)" + close + ";", 22);
        TEXTS.fault("a= (" + open, 23);
        TEXTS.good("a=" + open + "b" + close + "+" + open + "b" + close + ";");
        TEXTS.fault("a=" + open + "b" + close + "+(" + open, 64);
        TEXTS.fault("a=" + "-(".repeat(21), 43);
        TEXTS.fault("a=" + "1+(".repeat(21), 64);
        TEXTS.good("@" + open + "b" + close + "=" + open + "b" + close + ";");
        TEXTS.fault("@(" + open, 21);
        TEXTS.fault("@1=(" + open, 23);
        TEXTS.fault("!(" + open, 21);
        TEXTS.fault("?(" + open, 21);
        TEXTS.fault("*(" + open, 21);
        TEXTS.good("a=" + "(".repeat(19) + "(b)+(c)-(d)" + ")".repeat(19) + ";");
        TEXTS.good(("a=" + open + "b" + close + ";").repeat(3));
    }

    private static void blocksAndParenthesesAreCountedApart() {
        CHECK.sentence("of its kind");
        String open = "(".repeat(20);
        String close = ")".repeat(20);
        TEXTS.good("?a{".repeat(19) + "?" + open + "b" + close + "{!" + open + "c" + close + ";" + "}".repeat(20));
        TEXTS.fault("?a{".repeat(19) + "?" + open + "b" + close + "{!(" + open, 121);
        TEXTS.fault("?a{".repeat(20) + "?" + open + "b" + close + "{", 102);
    }

    private static void statementsOfAProgram() {
        CHECK.sentence("the first word of the 301st statement");
        TEXTS.good("!1;".repeat(300));
        TEXTS.fault("!1;".repeat(301), 900);
        TEXTS.fault("!1;".repeat(300) + " \n a=1;", 903);
        TEXTS.fault("!1;".repeat(300) + "@", 900);
        TEXTS.fault("!1;".repeat(300) + "?a{}", 900);
        TEXTS.fault("!1;".repeat(300) + "*", 900);
        TEXTS.good("!1;".repeat(300) + "A{}B{}");
        TEXTS.good("!1;".repeat(299) + "A{}A;");
        TEXTS.fault("!1;".repeat(300) + "A{}A;", 903);
        TEXTS.fault("!1;".repeat(300) + "A{!", 902);
        TEXTS.fault("A{" + "!1;".repeat(150) + "}" + "!1;".repeat(150) + " A;", 904);
        TEXTS.fault("A{" + "!1;".repeat(150) + "}" + "!1;".repeat(150) + "?a{", 903);
        TEXTS.good("?a{!1;!2;}:{!3;}".repeat(75));
        TEXTS.fault("?a{!1;!2;}:{!3;}".repeat(75) + "a", 1200);
        TEXTS.fault("?a{!1;!2;}:{!3;}".repeat(75) + ";", 1200);
        TEXTS.good("*a{}".repeat(300));
        TEXTS.fault("*a{}".repeat(301), 1200);
        TEXTS.fault("*a{!1;!2;".repeat(20) + "!1;".repeat(240) + "  @", 902);
        TEXTS.fault("A{}?a{" + "!1;".repeat(299) + "A{", 903);
        TEXTS.good("A{}" + "A;".repeat(300));
        TEXTS.fault("A{}" + "A;".repeat(301), 603);
        TEXTS.good("a=1+1+1+1;".repeat(300));
        TEXTS.fault("a=1+1+1+1;".repeat(299) + "a=1+1+1+1+", 3000);
    }

    private static void factorsOfAStatement() {
        CHECK.sentence("or of the 61st factor of one statement");
        TEXTS.good("a=" + "b+".repeat(59) + "b;");
        TEXTS.fault("a=" + "b+".repeat(60) + "b;", 122);
        TEXTS.fault("a=" + "b+".repeat(60) + " 77;", 123);
        TEXTS.fault("a=" + "b+".repeat(60) + ";", 122);
        TEXTS.fault("a=" + "b+".repeat(60) + "9999999999;", 122);
        TEXTS.good("!" + "1*".repeat(59) + "#;");
        TEXTS.fault("!" + "1*".repeat(60) + "#;", 121);
        TEXTS.good("!" + "1-".repeat(30) + "1<" + "1-".repeat(28) + "1;");
        TEXTS.fault("!" + "1-".repeat(30) + "1<" + "1-".repeat(29) + "1;", 121);
        TEXTS.good(("!" + "1+".repeat(59) + "1;").repeat(24));
        TEXTS.fault(("!" + "1+".repeat(59) + "1;").repeat(2) + "!" + "1+".repeat(60) + "1;", 363);
    }

    private static void whatIsAFactor() {
        CHECK.sentence("(\"-\", \"(\" and \"@\" are factors, what is in them too)");
        TEXTS.good("a=" + "-".repeat(59) + "b;");
        TEXTS.fault("a=" + "-".repeat(60) + "b;", 62);
        TEXTS.fault("a=" + "-".repeat(61), 62);
        TEXTS.good("a=" + "@".repeat(59) + "b;");
        TEXTS.fault("a=" + "@".repeat(60) + "b;", 62);
        TEXTS.good("!" + "(#)*".repeat(29) + "(1);");
        TEXTS.fault("!" + "(#)*".repeat(30) + "1;", 121);
        TEXTS.fault("!" + "(#)*".repeat(29) + "1+(1);", 120);
        TEXTS.good("!(" + "1+".repeat(58) + "1);");
        TEXTS.fault("!(" + "1+".repeat(59) + "1);", 120);
        TEXTS.good("!" + "-@(".repeat(15) + "1" + ")".repeat(15) + "+" + "1+".repeat(13) + "1;");
        TEXTS.fault("!" + "-@(".repeat(19) + "1" + ")".repeat(19) + "+1+1+1;", 83);
        TEXTS.good("!" + "a-".repeat(59) + "a;");
        TEXTS.fault("!" + "a--".repeat(30) + "a;", 91);
    }

    private static void conditionIsOneByItself() {
        CHECK.sentence("a condition's expression is one by itself");
        TEXTS.good("?" + "a+".repeat(59) + "a{!" + "b+".repeat(59) + "b;}");
        TEXTS.good("*" + "a+".repeat(59) + "a{!" + "b+".repeat(59) + "b;}");
        TEXTS.good("?" + "a+".repeat(59) + "a{}:{!" + "b+".repeat(59) + "b;c=" + "b+".repeat(59) + "b;}");
        TEXTS.fault("?" + "a+".repeat(60) + "a{}", 121);
        TEXTS.fault("*" + "a+".repeat(60) + "a{}", 121);
        TEXTS.fault("?a{!" + "b+".repeat(60) + "b;}", 124);
    }

    private static void numberAndValueOfACellAreOne() {
        CHECK.sentence("that of a cell's number and its value are one");
        TEXTS.good("@" + "-".repeat(29) + "1=" + "-".repeat(29) + "1;");
        TEXTS.fault("@" + "-".repeat(29) + "1=" + "-".repeat(30) + "1;", 62);
        TEXTS.fault("@" + "-".repeat(30) + "1=" + "-".repeat(29) + "1;", 62);
        TEXTS.good("@a=" + "1+".repeat(58) + "1;");
        TEXTS.fault("@a=" + "1+".repeat(59) + "1;", 121);
        TEXTS.good("@(" + "1+".repeat(57) + "1)=0;");
        TEXTS.fault("@(" + "1+".repeat(58) + "1)=0;", 121);
        TEXTS.fault("@(" + "1+".repeat(59) + "1)=0;", 120);
    }
}
