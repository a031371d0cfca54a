import java.util.NoSuchElementException;

/** Promises 10 and 11: name and cell. */
final class NameAndCellTest {
    public static void main(String[] args) {
        Check check = new Check();
        everyNameHasItsValue(check);
        everyCellHasItsValue(check);
        refused(check);
        check.end("NameAndCellTest");
    }

    private static void everyNameHasItsValue(Check check) {
        StringBuilder text = new StringBuilder();
        for (int k = 0; k < 26; k++) {
            text.append((char) ('a' + k)).append("=-").append(100 + k).append(';');
        }
        QueueBench bench = Texts.started(text.toString());
        bench.run(13);
        for (int k = 0; k < 26; k++) {
            check.due("name(" + k + ") half way", bench.name(k), k < 13 ? -100 - k : 0);
        }
        bench.run(13);
        for (int k = 0; k < 26; k++) {
            check.due("name(" + k + ")", bench.name(k), -100 - k);
        }
    }

    private static void everyCellHasItsValue(Check check) {
        QueueBench bench = Texts.started("*a<100{@a=a*a+1;a=a+1;}");
        bench.run(1000);
        for (int k = 0; k < 100; k++) {
            check.due("cell(" + k + ")", bench.cell(k), k * k + 1);
        }
        check.due("name(0)", bench.name(0), 100);
    }

    private static void refused(Check check) {
        QueueBench bench = Texts.compiled("a=1;@0=2;");
        check.refuses("name(0) ahead of start()", NoSuchElementException.class, () -> bench.name(0));
        check.refuses("cell(0) ahead of start()", NoSuchElementException.class, () -> bench.cell(0));
        bench.start();
        for (int k : new int[] {-1, 26, 97, Integer.MIN_VALUE, Integer.MAX_VALUE}) {
            check.refuses("name(" + k + ")", NoSuchElementException.class, () -> bench.name(k));
        }
        for (int k : new int[] {-1, 100, Integer.MIN_VALUE, Integer.MAX_VALUE}) {
            check.refuses("cell(" + k + ")", NoSuchElementException.class, () -> bench.cell(k));
        }
        bench.run(2);
        check.due("name(0)", bench.name(0), 1);
        check.due("cell(0)", bench.cell(0), 2);
        bench.compile();
        check.refuses("name(0) behind compile()", NoSuchElementException.class, () -> bench.name(0));
        check.refuses("cell(0) behind compile()", NoSuchElementException.class, () -> bench.cell(0));
    }
}
