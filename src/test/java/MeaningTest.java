/** Terms: what it means to run a program. */
final class MeaningTest {
    private static final Check CHECK = new Check();
    private static final int MIN = Integer.MIN_VALUE;
    private static final int MAX = Integer.MAX_VALUE;

    public static void main(String[] args) {
        valuesAtFirst();
        givesANameAValue();
        givesACellAValue();
        putsOut();
        conditions();
        loops();
        calls();
        definitionsDoNothing();
        cellsInExpressions();
        input();
        comparisons();
        wrapRound();
        divisions();
        fromLeftToRight();
        deepestExpressions();
        CHECK.end("MeaningTest");
    }

    private static void value(String expression, int due, int... inputs) {
        QueueBench bench = Texts.started("a=7;b=-2;@7=70;@70=99;!" + expression + ";", inputs);
        CHECK.due("run(9) of " + expression, bench.run(9), 5);
        CHECK.due(expression, bench.output(0), due);
    }

    private static void outputs(String text, int... due) {
        QueueBench bench = Texts.run(text);
        CHECK.due("state(0) of " + text, bench.state(0), 1);
        CHECK.due("state(2) of " + text, bench.state(2), due.length);
        for (int k = 0; k < due.length && k < bench.state(2); k++) {
            CHECK.due("output(" + k + ") of " + text, bench.output(k), due[k]);
        }
    }

    private static void valuesAtFirst() {
        CHECK.sentence("names a .. z and CELLS 0 .. 99 have values, 0 at first");
        StringBuilder text = new StringBuilder();
        for (char name = 'a'; name <= 'z'; name++) {
            text.append('!').append(name).append(';');
        }
        outputs(text.toString(), new int[26]);
        outputs("*a<100{!@a;a=a+1;}", new int[100]);
    }

    private static void givesANameAValue() {
        CHECK.sentence("\"=\" gives a name a value");
        outputs("a=5;!a;a=a+1;!a;!b;", 5, 6, 0);
        outputs("z=2147483647;z=-z-1;!z;a=z;!a;", MIN, MIN);
        outputs("a=b=c;!a;b=a<1;!b;", 1, 0);
    }

    private static void givesACellAValue() {
        CHECK.sentence("\"@\" one cell, whose number its factor is");
        outputs("@0=5;!@0;!@1;", 5, 0);
        outputs("@99=6;!@99;!@98;", 6, 0);
        outputs("a=3;@a=8;@(a+1)=9;!@3;!@4;", 8, 9);
        outputs("@5=7;@@5=4;!@7;!@5;", 4, 7);
        outputs("@-(-6)=1;!@6;", 1);
        outputs("@2=@2+1;@2=@2+1;!@2;", 2);
        outputs("@(1<2)=3=3;!@1;!@0;", 1, 0);
        QueueBench bench = Texts.run("@#=#;", 4, 5);
        CHECK.due("cell(4), number and value of the input", bench.cell(4), 5);
    }

    private static void putsOut() {
        CHECK.sentence("\"!\" puts a value out");
        outputs("!0;!-1;!1=1;!2147483647;", 0, -1, 1, MAX);
    }

    private static void conditions() {
        CHECK.sentence("\"?\" runs the first block, if its expression is not 0, else the second one, if there is one");
        outputs("?1{!1;}:{!2;}!3;", 1, 3);
        outputs("?0{!1;}:{!2;}!3;", 2, 3);
        outputs("?-1{!1;}:{!2;}!3;", 1, 3);
        outputs("?-2147483647-1{!1;}:{!2;}!3;", 1, 3);
        outputs("?2147483647{!1;}!3;", 1, 3);
        outputs("?256{!1;}!3;", 1, 3);
        outputs("?0{!1;}!3;", 3);
        outputs("?0{!1;}:{}!3;", 3);
        outputs("?1{}:{!2;}!3;", 3);
        outputs("?1{?0{!1;}:{?2{!2;}!3;}!4;}:{!5;}!6;", 2, 3, 4, 6);
        outputs("?0{}:{?1{!1;}:{!2;}}!3;", 1, 3);
        outputs("?0{?1{}:{!1;}}:{!2;}!3;", 2, 3);
    }

    private static void loops() {
        CHECK.sentence("\"*\" runs its block again and again, as long as its expression, before each time, is not 0");
        outputs("*a<3{a=a+1;!a;}!9;", 1, 2, 3, 9);
        outputs("*0{!1;}!9;", 9);
        outputs("a=-2;*a{!a;a=a+1;}!9;", -2, -1, 9);
        outputs("a=1;*a{a=0;!5;}", 5);
        outputs("*a<2{b=0;*b<2{!a*10+b;b=b+1;}a=a+1;}", 0, 1, 10, 11);
        outputs("*a<3{?a=1{!7;}:{!8;}a=a+1;}", 8, 7, 8);
        outputs("*a<2{a=a+1;?1{!a;}}", 1, 2);
        outputs("*a<2{a=a+1;?0{}:{!a;}}", 1, 2);
        outputs("a=3;*a{a=a-1;?a{?a{!a;}}}", 2, 1);
        QueueBench bench = Texts.run("*#{!#;}!#;", 1, 5, -1, 6, 0, 7);
        CHECK.due("state(3), a loop's input", bench.state(3), 6);
        CHECK.due("output(1), a loop's input", bench.output(1), 6);
        CHECK.due("output(2), a loop's input", bench.output(2), 7);
    }

    private static void calls() {
        CHECK.sentence("A procedure's name runs its block");
        outputs("A{!1;}!0;A;!2;A;", 0, 1, 2, 1);
        outputs("A{}A;!1;", 1);
        outputs("A{!1;}B{!2;A;!3;}C{B;B;}C;!4;", 2, 1, 3, 2, 1, 3, 4);
        outputs("A{}B{A;}C{B;}C;!1;", 1);
        outputs("A{a=a+1;?a<3{!a;}:{!-a;}}*a<4{A;}", 1, 2, -3, -4);
        outputs("A{*b<2{b=b+1;!b;}}A;!9;A;!8;", 1, 2, 9, 8);
        outputs("Z{!26;}A{Z;!1;}?1{A;}:{Z;}", 26, 1);
        StringBuilder chain = new StringBuilder("A{!1;}");
        for (char each = 'B'; each <= 'Z'; each++) {
            chain.append(each).append('{').append((char) (each - 1)).append(";!").append(each - '@').append(";}");
        }
        int[] due = new int[27];
        for (int k = 0; k < 27; k++) {
            due[k] = k + 1;
        }
        outputs(chain + "Z;!27;", due);
    }

    private static void definitionsDoNothing() {
        CHECK.sentence("a definition does nothing");
        outputs("!1;A{!2;}!3;", 1, 3);
        outputs("A{!2;a=1;@1=1;}");
        QueueBench bench = Texts.run("!1;A{!#;}B{A;}");
        CHECK.due("state(1)", bench.state(1), 1);
        CHECK.due("state(0)", bench.state(0), 1);
    }

    private static void cellsInExpressions() {
        CHECK.sentence("In expressions \"@\" is the value of a cell");
        value("@a", 70);
        value("@@a", 99);
        value("@a+1", 71);
        value("@(a*10)", 99);
        value("-@a", -70);
        value("@-b", 0);
        value("@0", 0);
        value("@99", 0);
        value("@a*2", 140);
    }

    private static void input() {
        CHECK.sentence("\"#\" the next value of the input");
        value("#-#*#", -1, 5, 2, 3);
        value("#*10+#", 52, 5, 2);
        value("(#<#)*10+#", 19, 1, 2, 9);
        value("@#", 70, 7);
        value("#", MIN, MIN);
        value("-#", MIN, MIN);
        value("#", MAX, MAX);
    }

    private static void comparisons() {
        CHECK.sentence("\"<\" and \"=\" are 1 or 0");
        value("1<2", 1);
        value("2<2", 0);
        value("3<2", 0);
        value("-1<0", 1);
        value("0<-1", 0);
        value("-2147483647-1<2147483647", 1);
        value("2147483647<-2147483647-1", 0);
        value("2147483647+1<0", 1);
        value("2=2", 1);
        value("2=3", 0);
        value("1=-1", 0);
        value("1+1=2", 1);
        value("2147483647+1=-2147483647-1", 1);
        value("(1<2)+(2<3)*2", 3);
        value("(3=3)=1", 1);
        value("5-(5=5)", 4);
    }

    private static void wrapRound() {
        CHECK.sentence("\"+\", \"-\", \"*\" wrap round");
        value("2147483647+1", MIN);
        value("2147483647+2147483647", -2);
        value("-2147483647-1", MIN);
        value("-2147483647-2", MAX);
        value("0-(-2147483647-1)", MIN);
        value("-(-2147483647-1)", MIN);
        value("--2147483647", MAX);
        value("65536*65536", 0);
        value("65537*65537", 131073);
        value("2147483647*2", -2);
        value("2147483647*2147483647", 1);
        value("(-2147483647-1)*-1", MIN);
        value("(-2147483647-1)*(-2147483647-1)", 0);
    }

    private static void divisions() {
        CHECK.sentence("\"/\" is truncated, \"%\" its rest (-2147483648 / -1 wraps round)");
        value("7/2", 3);
        value("-7/2", -3);
        value("7/-2", -3);
        value("(-7)/(-2)", 3);
        value("1/2", 0);
        value("-1/2", 0);
        value("0/5", 0);
        value("7%2", 1);
        value("-7%2", -1);
        value("7%-2", 1);
        value("-7%-2", -1);
        value("6%3", 0);
        value("1%5", 1);
        value("a/b*b+a%b", 7);
        value("(-2147483647-1)/-1", MIN);
        value("(-2147483647-1)%-1", 0);
        value("(-2147483647-1)/1", MIN);
        value("(-2147483647-1)/2147483647", -1);
        value("(-2147483647-1)%2147483647", -1);
        value("2147483647/(-2147483647-1)", 0);
        value("2147483647%(-2147483647-1)", MAX);
        value("(-2147483647-1)/(-2147483647-1)", 1);
    }

    private static void fromLeftToRight() {
        CHECK.sentence("All is worked out from left to right, operands ahead of what is done with them");
        value("10-4-3", 3);
        value("10-4+3", 9);
        value("100/10/5", 2);
        value("100/10*5", 50);
        value("17%10*2", 14);
        value("7*3%4", 1);
        value("2+3*4-5", 9);
        value("2*3+4*5", 26);
        value("(2+3)*(4-5)", -5);
        value("-2*-3", 6);
        value("-a+1", -6);
        value("-(a+1)", -8);
        value("-a*2", -14);
        value("1<2*3", 1);
        value("#-(#-#)", 4, 5, 2, 1);
        value("#/(#-#)+#*#", 58, 8, 5, 1, 7, 8);
        outputs("a=1;b=2;a=a+b;b=a+b;!a;!b;", 3, 5);
    }

    private static void deepestExpressions() {
        CHECK.sentence("operands ahead of what is done with them (sixty factors, twenty parentheses)");
        value("1+2*(".repeat(19) + "5" + ")".repeat(19), (5 + 1 << 19) - 1);
        value("-(3-".repeat(19) + "0" + ")".repeat(19), -57);
        value("1-(0<1+2*(".repeat(9) + "7" + "))".repeat(9), 0);
        value("-".repeat(58) + "@a", 70);
        value("1-".repeat(59) + "1", -58);
        value("#*".repeat(29) + "1+" + "#-".repeat(29) + "0", 1 + 3 - 28 * 3, inputs(58, 3, 1));
        value("(1=1)+(".repeat(14) + "2*3" + ")".repeat(14), 20);
    }

    /** The first half of the values is the one, the second half the other. */
    private static int[] inputs(int size, int second, int first) {
        int[] values = new int[size];
        for (int k = 0; k < size; k++) {
            values[k] = k < size / 2 ? first : second;
        }
        return values;
    }
}
