import java.util.NoSuchElementException;

/** Promise 12: terms, and what a term is. */
final class TermsTest {
    private static final Check CHECK = new Check();

    public static void main(String[] args) {
        expressionsOfAStep();
        factorThatTellsACell();
        allThatTheyAreMadeOf();
        parentheses();
        sameNumberOrName();
        sameSignOfTheSameTerms();
        inTheSameOrder();
        eachInputIsATermOfItsOwn();
        everyKindOfStep();
        callHasNone();
        mostTermsOfOneStep();
        askedAgainAndAgain();
        noneBeginsThere();
        noProgram();
        CHECK.end("TermsTest");
    }

    private static void first(String text, int due) {
        CHECK.due("terms(0) of " + text, Texts.compiled(text).terms(0), due);
    }

    private static void expressionsOfAStep() {
        CHECK.sentence("TERMS of a step are its expressions");
        first("a=0;", 1);
        first("a=b;", 1);
        first("a=a;", 1);
        first("!a;", 1);
        first("?a{!b+c;}:{!d;}", 1);
        first("*a<b{!c+d;}", 3);
    }

    private static void factorThatTellsACell() {
        CHECK.sentence("the factor that tells a cell that is given a value (not that cell itself)");
        first("@1=1;", 1);
        first("@1=2;", 2);
        first("@a=@a;", 2);
        first("@@a=@a;", 2);
        first("@@a=a;", 2);
        first("@(a+1)=a+1;", 3);
        first("@(a+1)=b;", 4);
        first("@-a=b=-a;", 4);
        first("@#=#;", 2);
    }

    private static void allThatTheyAreMadeOf() {
        CHECK.sentence("and all that they are made of (numbers, names, factors)");
        first("!a+b;", 3);
        first("!a+b+c;", 5);
        first("!a*b/c%d;", 7);
        first("!a<b;", 3);
        first("!a=b;", 3);
        first("!-a;", 2);
        first("!--a;", 3);
        first("!-5;", 2);
        first("!@a;", 2);
        first("!@@a;", 3);
        first("!a+b*c<d;", 7);
    }

    private static void parentheses() {
        CHECK.sentence("parts in parentheses are what is in them");
        first("!(a);", 1);
        first("!((((a))));", 1);
        first("!a+(a);", 2);
        first("!a+(b+c);", 5);
        first("!(a+b)+c+(a+b+c);", 6);
        first("!-(a)+-a;", 3);
        first("!@(a)+@a;", 3);
        first("!(a<b)=(c<d);", 7);
    }

    private static void sameNumberOrName() {
        CHECK.sentence("two are the SAME if they are the same number, name");
        first("!a+a;", 2);
        first("!a+b;", 3);
        first("!7+7;", 2);
        first("!7+8;", 3);
        first("!7+07+(007);", 3);
        first("!0+00;", 2);
        first("!2147483647+2147483646;", 3);
        first("!97+a;", 3);
        first("!0+a+1+b;", 7);
        first("!a+z;", 3);
    }

    private static void sameSignOfTheSameTerms() {
        CHECK.sentence("or sign of the same terms");
        first("!(a+b)*(a+b);", 4);
        first("!a*b+a*b*c;", 6);
        first("!1+2+(1+2)+(1+2+(1+2));", 5);
        first("!a+b+c+(a+b);", 6);
        first("!-a-(-a);", 3);
        first("!@a+@a;", 3);
        first("!@-a+-a;", 4);
        first("!a-b+(a+b);", 5);
        first("!(a<b)+(a=b);", 5);
        first("!a/b+a%b+a*b;", 7);
        first("!-a+(0-a);", 5);
        first("!-a+@a;", 4);
        first("!-5+5;", 3);
        first("!(a+b)*(a+c);", 6);
    }

    private static void inTheSameOrder() {
        CHECK.sentence("in the same order");
        first("!a+b-(b+a);", 5);
        first("!a*b-(b*a);", 5);
        first("!(a<b)=(b<a);", 5);
        first("!(a=b)+(b=a);", 5);
        first("!a+b+c-(a+(b+c));", 8);
    }

    private static void eachInputIsATermOfItsOwn() {
        CHECK.sentence("each \"#\" is a term of its own");
        first("!#;", 1);
        first("!#+#;", 3);
        first("!#+1+(#+1);", 6);
        first("!-#+-#;", 5);
        first("!@#+@#;", 5);
        first("!(#)+((#));", 3);
        first("@#=#+#;", 4);
    }

    private static void everyKindOfStep() {
        CHECK.sentence("How many different terms the step has whose first sign is at a place of the program");
        QueueBench bench = Texts.compiled("A{!1+2;}\n?a<b{c=c+d+c;}:{@e=f;}*g{A;}A;");
        int[][] due = {{2, 3}, {9, 3}, {14, 4}, {25, 2}, {31, 1}, {34, 0}, {37, 0}};
        for (int[] each : due) {
            CHECK.due("terms(" + each[0] + ")", bench.terms(each[0]), each[1]);
        }
        CHECK.due("count(1)", bench.count(1), due.length);
        QueueBench far = Texts.compiled(" ".repeat(2996) + "!-1;");
        CHECK.due("terms(2996)", far.terms(2996), 2);
    }

    private static void callHasNone() {
        CHECK.sentence("(0 for a call)");
        QueueBench bench = Texts.compiled("A{!1+2;}A;?1{A;}");
        CHECK.due("terms(8)", bench.terms(8), 0);
        CHECK.due("terms(13)", bench.terms(13), 0);
    }

    private static void mostTermsOfOneStep() {
        CHECK.sentence("How many different terms the step has (with sixty factors)");
        StringBuilder text = new StringBuilder("!0");
        for (int k = 1; k < 60; k++) {
            text.append('+').append(k);
        }
        first(text + ";", 119);
        first("!" + "#*".repeat(59) + "#;", 119);
        first("!" + "-".repeat(59) + "a;", 60);
        first("!" + "@".repeat(59) + "#;", 60);
        first("!" + "a+".repeat(59) + "a;", 60);
        first("@(" + "#*".repeat(57) + "#)=#;", 116);
        first("@a=" + "#-".repeat(58) + "#;", 118);
    }

    private static void askedAgainAndAgain() {
        CHECK.sentence("How many different terms the step has (at any time)");
        QueueBench bench = Texts.compiled("!(a+b)*(a+b);!#+a;");
        for (int k = 0; k < 100; k++) {
            CHECK.due("terms(0), asked again", bench.terms(0), 4);
            CHECK.due("terms(13), asked again", bench.terms(13), 3);
        }
        bench.start();
        bench.run(1000);
        CHECK.due("terms(0) behind run", bench.terms(0), 4);
        bench.clear();
        CHECK.due("terms(0) behind clear()", bench.terms(0), 4);
        CHECK.due("state(0) behind terms", bench.state(0), 4);
        CHECK.due("state(1) behind terms", bench.state(1), 1);
        Texts.compile(bench, "a=1+2;");
        CHECK.due("terms(0) of another program", bench.terms(0), 3);
    }

    private static QueueBench withBlanks() {
        return Texts.started("  A { } \n ? a { !-1;} : { A ; }", 1);
    }

    private static void noneBeginsThere() {
        CHECK.sentence("NoSuchElementException: none begins there");
        int[] steps = {10, 16, 26};
        int next = 0;
        for (int k = -1; k <= 32; k++) {
            int place = k;
            if (next < steps.length && steps[next] == place) {
                CHECK.due("terms(" + place + ")", withBlanks().terms(place), new int[] {1, 2, 0}[next]);
                next++;
            } else {
                CHECK.refuses("terms(" + place + ")", NoSuchElementException.class, TermsTest::withBlanks,
                        x -> x.terms(place));
            }
        }
        for (int place : new int[] {2999, 3000, Integer.MIN_VALUE, Integer.MAX_VALUE}) {
            CHECK.refuses("terms(" + place + ")", NoSuchElementException.class, TermsTest::withBlanks,
                    x -> x.terms(place));
        }
        CHECK.refuses("terms(0) of no text", NoSuchElementException.class, () -> Texts.compiled(""), x -> x.terms(0));
        CHECK.refuses("terms(4) of a shorter program", NoSuchElementException.class, TermsTest::shorterProgram,
                x -> x.terms(4));
        CHECK.refuses("terms(6) of a text that was not compiled", NoSuchElementException.class,
                TermsTest::longerText, x -> x.terms(6));
    }

    private static QueueBench shorterProgram() {
        QueueBench bench = Texts.run("a=1;b=2;");
        Texts.compile(bench, "!3;");
        return bench;
    }

    private static QueueBench longerText() {
        QueueBench bench = Texts.run("!1;!2;");
        Texts.feed(bench, "!3;");
        return bench;
    }

    private static void noProgram() {
        CHECK.sentence("or there is no program");
        for (int place : new int[] {-1, 0, 2, 14}) {
            CHECK.refuses("terms(" + place + ") of a new object", NoSuchElementException.class, QueueBench::new,
                    x -> x.terms(place));
            CHECK.refuses("terms(" + place + ") ahead of compile()", NoSuchElementException.class,
                    Situation.FED::make, x -> x.terms(place));
            CHECK.refuses("terms(" + place + ") behind a fault", NoSuchElementException.class,
                    Situation.BEHIND_A_FAULT::make, x -> x.terms(place));
        }
    }
}
