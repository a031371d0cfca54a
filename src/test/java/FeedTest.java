/** Promise 2: feed. */
final class FeedTest {
    private static final Check CHECK = new Check();
    private static final int FOUR_SPACES = 0x20202020;

    public static void main(String[] args) {
        signsComeBehindTheText();
        inTheirOrder();
        lowestBitsFirst();
        zeroIsNone();
        allOtherSigns();
        howManySigns();
        upTo3000();
        moreThan3000();
        everySignCounts();
        nothingIsTakenOfARefusedFeed();
        CHECK.end("FeedTest");
    }

    private static int first(QueueBench bench) {
        bench.start();
        bench.run(1);
        return bench.output(0);
    }

    private static void signsComeBehindTheText() {
        CHECK.sentence("Signs come behind the text");
        QueueBench bench = new QueueBench();
        bench.feed('!', 0, 0, 0, 0);
        bench.feed('1', 0, 0, 0, 0);
        bench.feed('2', 0, 0, 0, 0);
        bench.feed(';', 0, 0, 0, 0);
        CHECK.due("compile()", bench.compile(), 0);
        CHECK.due("output(0)", first(bench), 12);
        bench.feed('!', '3', ';', 0, 0);
        CHECK.due("compile() of a longer text", bench.compile(), 0);
        CHECK.due("count(1) of a longer text", bench.count(1), 2);
        CHECK.due("output(0) of a longer text", first(bench), 12);
    }

    private static void inTheirOrder() {
        CHECK.sentence("of a, then of b, and so on");
        QueueBench bench = new QueueBench();
        CHECK.due("feed", bench.feed('!', '1', '2', '3', ';'), 5);
        CHECK.due("compile()", bench.compile(), 0);
        CHECK.due("output(0)", first(bench), 123);
    }

    private static void lowestBitsFirst() {
        CHECK.sentence("the lowest eight bits first");
        QueueBench bench = new QueueBench();
        CHECK.due("feed of !98765432-1023456+7;",
                bench.feed(0x37383921, 0x33343536, 0x30312d32, 0x35343332, 0x3b372b36), 20);
        CHECK.due("compile()", bench.compile(), 0);
        CHECK.due("output(0)", first(bench), 98765432 - 1023456 + 7);
    }

    private static void zeroIsNone() {
        CHECK.sentence("0 is none");
        QueueBench bench = new QueueBench();
        CHECK.due("feed of nothing", bench.feed(0, 0, 0, 0, 0), 0);
        CHECK.due("feed with gaps", bench.feed(0x31000021, 0, 0x32000000, 0x00330000, 0x00003b00), 5);
        CHECK.due("feed of nothing behind them", bench.feed(0, 0, 0, 0, 0), 5);
        CHECK.due("compile()", bench.compile(), 0);
        CHECK.due("output(0)", first(bench), 123);
    }

    private static void allOtherSigns() {
        CHECK.sentence("Signs (eight bits, 1 .. 255)");
        QueueBench bench = new QueueBench();
        for (int sign = 1; sign < 256; sign++) {
            CHECK.due("feed of sign " + sign, bench.feed(0, 0, sign << 24, 0, 0), sign);
        }
        CHECK.due("feed of 16 signs 255", bench.feed(-1, -1, 0, -1, -1), 271);
        CHECK.due("feed of sign 128", bench.feed(0, 0, 0, 0, Integer.MIN_VALUE), 272);
    }

    private static void howManySigns() {
        CHECK.sentence("how many signs there are");
        QueueBench bench = new QueueBench();
        CHECK.due("feed of 20", bench.feed(FOUR_SPACES, FOUR_SPACES, FOUR_SPACES, FOUR_SPACES, FOUR_SPACES), 20);
        CHECK.due("feed of 1", bench.feed(0, ' ', 0, 0, 0), 21);
        bench.clear();
        CHECK.due("feed of 3 behind clear()", bench.feed(0x202020, 0, 0, 0, 0), 3);
        bench.compile();
        CHECK.due("feed of 2 behind compile()", bench.feed(0, 0, 0, 0, 0x2020), 5);
        bench.compile();
        bench.start();
        CHECK.due("feed of 4 behind start()", bench.feed(0, 0, 0, FOUR_SPACES, 0), 9);
    }

    private static QueueBench with(int signs) {
        QueueBench bench = new QueueBench();
        Texts.fill(bench, signs);
        return bench;
    }

    private static int feedTwenty(QueueBench bench) {
        return bench.feed(FOUR_SPACES, FOUR_SPACES, FOUR_SPACES, FOUR_SPACES, FOUR_SPACES);
    }

    private static void upTo3000() {
        CHECK.sentence("THE TEXT is a row of at most 3000 signs");
        CHECK.due("20 signs behind 2980", feedTwenty(with(2980)), 3000);
        CHECK.due("2 signs behind 2998", with(2998).feed(' ', 0, 0, 0, ' ' << 24), 3000);
        CHECK.due("1 sign behind 2999", with(2999).feed(0, 0, ' ' << 16, 0, 0), 3000);
        CHECK.due("no sign behind 3000", with(3000).feed(0, 0, 0, 0, 0), 3000);
        QueueBench bench = with(2980);
        CHECK.due("a program behind 2980", Texts.feed(bench, "a=12345678+7*2; !-a;"), 3000);
        CHECK.due("compile()", bench.compile(), 0);
        CHECK.due("terms(2996)", bench.terms(2996), 2);
        bench.start();
        bench.run(2);
        CHECK.due("output(0)", bench.output(0), -12345692);
    }

    private static void moreThan3000() {
        CHECK.sentence("IllegalStateException: there would be more than 3000");
        CHECK.refuses("20 signs behind 2981", IllegalStateException.class, () -> with(2981), FeedTest::feedTwenty);
        CHECK.refuses("2 signs in a behind 2999", IllegalStateException.class, () -> with(2999),
                x -> x.feed(0x2020, 0, 0, 0, 0));
        CHECK.refuses("2 signs in b behind 2999", IllegalStateException.class, () -> with(2999),
                x -> x.feed(0, 0x20000020, 0, 0, 0));
        CHECK.refuses("2 signs in c behind 2999", IllegalStateException.class, () -> with(2999),
                x -> x.feed(0, 0, 0x200020, 0, 0));
        CHECK.refuses("2 signs in d behind 2999", IllegalStateException.class, () -> with(2999),
                x -> x.feed(0, 0, 0, 0x20200000, 0));
        CHECK.refuses("2 signs in e behind 2999", IllegalStateException.class, () -> with(2999),
                x -> x.feed(0, 0, 0, 0, 0x202000));
        CHECK.refuses("signs in a and e behind 2999", IllegalStateException.class, () -> with(2999),
                x -> x.feed(' ', 0, 0, 0, ' '));
        CHECK.refuses("1 sign behind 3000", IllegalStateException.class, () -> with(3000),
                x -> x.feed(0, 0, 0, 0, 255 << 24));
        CHECK.refuses("20 signs behind 3000", IllegalStateException.class, () -> with(3000), FeedTest::feedTwenty);
    }

    private static void everySignCounts() {
        CHECK.sentence("there would be more than 3000 (each sign but 0 is one)");
        QueueBench full = with(3000);
        for (int bit = 0; bit < 32; bit++) {
            int sign = 1 << bit;
            CHECK.refuses("bit " + bit + " behind 3000", IllegalStateException.class,
                    () -> full.feed(0, sign, 0, 0, 0));
        }
        CHECK.due("count(0)", full.count(0), 3000);
        for (int four : new int[] {0x01010101, 0x80808080, 0x01800180, 0x80018001, -1}) {
            CHECK.due("4 signs behind 2996", with(2996).feed(0, 0, 0, 0, four), 3000);
            CHECK.due("20 signs behind 2980", with(2980).feed(four, four, four, four, four), 3000);
            CHECK.refuses("4 signs behind 2997", IllegalStateException.class, () -> with(2997),
                    x -> x.feed(0, 0, 0, 0, four));
            CHECK.refuses("20 signs behind 2981", IllegalStateException.class, () -> with(2981),
                    x -> x.feed(four, four, four, four, four));
        }
    }

    private static void nothingIsTakenOfARefusedFeed() {
        CHECK.sentence("Such a call changes nothing (feed)");
        QueueBench bench = with(2997);
        bench.feed('!', '1', 0, 0, 0);
        CHECK.refuses("a sign too many", IllegalStateException.class, () -> bench.feed('2', ';', 0, 0, 0));
        CHECK.due("count(0)", bench.count(0), 2999);
        CHECK.due("the last sign", bench.feed(0, 0, 0, 0, ';'), 3000);
        CHECK.due("compile()", bench.compile(), 0);
        CHECK.due("output(0)", first(bench), 1);
        CHECK.refuses("a sign too many while a program runs", IllegalStateException.class,
                () -> bench.feed(';', 0, 0, 0, 0));
        CHECK.due("count(0)", bench.count(0), 3000);
        CHECK.due("state(0)", bench.state(0), 1);
        CHECK.due("clear()", bench.clear(), 3000);
        CHECK.due("feed behind clear()", bench.feed(' ', 0, 0, 0, 0), 1);
    }
}
