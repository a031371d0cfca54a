import java.util.NoSuchElementException;

/** Promise 11: cell. */
final class CellTest {
    private static final Check CHECK = new Check();

    public static void main(String[] args) {
        whatACellHas();
        greatAndSmallValues();
        noSuchCell();
        allCellsStayAtARefusedCall();
        notStarted();
        CHECK.end("CellTest");
    }

    private static QueueBench withAllCells() {
        return Texts.run("*a<100{@a=a*a+1;a=a+1;}");
    }

    private static void whatACellHas() {
        CHECK.sentence("What a cell has");
        QueueBench bench = Texts.started("*a<100{@a=a*a+1;a=a+1;}");
        CHECK.due("cell(0) at first", bench.cell(0), 0);
        CHECK.due("cell(99) at first", bench.cell(99), 0);
        bench.run(299);
        CHECK.due("cell(99), one step short", bench.cell(99), 99 * 99 + 1);
        bench.run(1);
        for (int k = 0; k < 100; k++) {
            CHECK.due("cell(" + k + ")", bench.cell(k), k * k + 1);
        }
        CHECK.due("name(0)", bench.name(0), 100);
    }

    private static void greatAndSmallValues() {
        CHECK.sentence("What a cell has (the greatest and the least)");
        QueueBench bench = Texts.run("@0=2147483647;@99=@0+1;");
        CHECK.due("cell(0)", bench.cell(0), Integer.MAX_VALUE);
        CHECK.due("cell(99)", bench.cell(99), Integer.MIN_VALUE);
        CHECK.due("cell(1)", bench.cell(1), 0);
        CHECK.due("cell(98)", bench.cell(98), 0);
        bench.clear();
        CHECK.due("cell(0) behind clear()", bench.cell(0), Integer.MAX_VALUE);
    }

    private static void noSuchCell() {
        CHECK.sentence("NoSuchElementException: there is no such cell");
        for (int k : new int[] {-1, 100, 101, 128, 256, Integer.MIN_VALUE, Integer.MAX_VALUE}) {
            CHECK.refuses("cell(" + k + ")", NoSuchElementException.class, CellTest::withAllCells, x -> x.cell(k));
        }
    }

    private static void allCellsStayAtARefusedCall() {
        CHECK.sentence("Such a call changes nothing (cell)");
        QueueBench bench = withAllCells();
        for (int wrong : new int[] {-1, 100, Integer.MIN_VALUE, Integer.MAX_VALUE}) {
            CHECK.refuses("cell(" + wrong + ")", NoSuchElementException.class, () -> bench.cell(wrong));
        }
        for (int k = 0; k < 100; k++) {
            CHECK.due("cell(" + k + ")", bench.cell(k), k * k + 1);
        }
    }

    private static void notStarted() {
        CHECK.sentence("also, if no program was started");
        for (int k : new int[] {-1, 0, 99, 100}) {
            CHECK.refuses("cell(" + k + ") of a new object", NoSuchElementException.class, QueueBench::new,
                    x -> x.cell(k));
            CHECK.refuses("cell(" + k + ") ahead of start()", NoSuchElementException.class, Situation.COMPILED::make,
                    x -> x.cell(k));
            CHECK.refuses("cell(" + k + ") behind compile()", NoSuchElementException.class,
                    Situation.COMPILED_AGAIN::make, x -> x.cell(k));
            CHECK.refuses("cell(" + k + ") behind a fault", NoSuchElementException.class,
                    Situation.BEHIND_A_FAULT::make, x -> x.cell(k));
        }
    }
}
