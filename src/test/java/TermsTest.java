import java.util.NoSuchElementException;

/** Promise 12: terms. */
final class TermsTest {
    private static final Check CHECK = new Check();

    public static void main(String[] args) {
        sameTermsAreOne();
        signsAndOrderMatter();
        cellsAndInput();
        everyKindOfStep();
        mostTermsOfOneStep();
        askedAgainAndAgain();
        refused();
        CHECK.end("TermsTest");
    }

    private static void first(String text, int due) {
        CHECK.due("terms(0) of " + text, Texts.compiled(text).terms(0), due);
    }

    private static void sameTermsAreOne() {
        first("a=0;", 1);
        first("a=b;", 1);
        first("!a;", 1);
        first("!a+a;", 2);
        first("!7+07+(007);", 3);
        first("!a+b+c;", 5);
        first("!a+b+c+(a+b);", 6);
        first("!a+(b+c);", 5);
        first("!((((a))));", 1);
        first("!(a+b)*(a+b);", 4);
        first("!a*b/c%d;", 7);
        first("!a*b+a*b*c;", 6);
        first("!1+2+(1+2)+(1+2+(1+2));", 5);
    }

    private static void signsAndOrderMatter() {
        first("!a+b-(b+a);", 5);
        first("!a-b+(a+b);", 5);
        first("!(a<b)=(b<a);", 5);
        first("!(a<b)+(a=b);", 5);
        first("!a/b+a%b+a*b;", 7);
        first("!-a+(0-a);", 5);
        first("!-a-(-a);", 3);
        first("!--a;", 3);
        first("!-5+5;", 3);
        first("!97+a;", 3);
        first("!0+a+1+b;", 7);
    }

    private static void cellsAndInput() {
        first("!#;", 1);
        first("!#+#;", 3);
        first("!#+1+(#+1);", 6);
        first("!-#+-#;", 5);
        first("!@#+@#;", 5);
        first("!@a+@a;", 3);
        first("!@@a;", 3);
        first("!@-a+-a;", 4);
        first("@1=1;", 1);
        first("@a=@a;", 2);
        first("@@a=@a;", 2);
        first("@@a=a;", 2);
        first("@(a+1)=a+1;", 3);
        first("@#=#;", 2);
        first("@-a=b=-a;", 4);
    }

    private static void everyKindOfStep() {
        QueueBench bench = Texts.compiled("A{!1+2;}\n?a<b{c=c+d+c;}:{@e=f;}*g{A;}A;");
        int[][] due = {{2, 3}, {9, 3}, {14, 4}, {25, 2}, {31, 1}, {34, 0}, {37, 0}};
        for (int[] each : due) {
            CHECK.due("terms(" + each[0] + ")", bench.terms(each[0]), each[1]);
        }
        for (int place = -1; place < 45; place++) {
            if (!hasStep(due, place)) {
                int at = place;
                CHECK.refuses("terms(" + at + ")", NoSuchElementException.class, () -> bench.terms(at));
            }
        }
        CHECK.due("count(1)", bench.count(1), due.length);
    }

    private static boolean hasStep(int[][] due, int place) {
        for (int[] each : due) {
            if (each[0] == place) {
                return true;
            }
        }
        return false;
    }

    private static void mostTermsOfOneStep() {
        StringBuilder text = new StringBuilder("!0");
        for (int k = 1; k < 60; k++) {
            text.append('+').append(k);
        }
        first(text + ";", 119);
        first("!" + "-".repeat(59) + "a;", 60);
        first("!" + "@".repeat(59) + "#;", 60);
        first("@" + "(" + "#*".repeat(57) + "#)=#;", 116);
    }

    private static void askedAgainAndAgain() {
        QueueBench bench = Texts.compiled("!(a+b)*(a+b);");
        for (int k = 0; k < 200; k++) {
            CHECK.due("terms(0), asked again", bench.terms(0), 4);
        }
    }

    private static void refused() {
        QueueBench bench = new QueueBench();
        Texts.feed(bench, "  a=1;");
        CHECK.refuses("terms(2) ahead of compile()", NoSuchElementException.class, () -> bench.terms(2));
        bench.compile();
        CHECK.due("terms(2)", bench.terms(2), 1);
        for (int place : new int[] {0, 1, 3, 6, 3000, Integer.MIN_VALUE, Integer.MAX_VALUE, QueueBench.NONE}) {
            CHECK.refuses("terms(" + place + ")", NoSuchElementException.class, () -> bench.terms(place));
        }
        bench.clear();
        CHECK.due("terms(2) behind clear()", bench.terms(2), 1);
        bench.start();
        bench.run(1);
        CHECK.due("terms(2) at the end", bench.terms(2), 1);
        Texts.compile(bench, "  a=1;(");
        CHECK.refuses("terms(2) behind a fault", NoSuchElementException.class, () -> bench.terms(2));
        Texts.compile(bench, "a=1+2;");
        CHECK.due("terms(0) of another program", bench.terms(0), 3);
        CHECK.refuses("terms(2) of another program", NoSuchElementException.class, () -> bench.terms(2));
    }
}
