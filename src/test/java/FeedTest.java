/** Promise 2: feed. */
final class FeedTest {
    public static void main(String[] args) {
        Check check = new Check();
        lowestBitsComeFirst(check);
        zeroIsNoSign(check);
        signsAboveSevenBits(check);
        textHasAtMost3000Signs(check);
        check.end("FeedTest");
    }

    private static void lowestBitsComeFirst(Check check) {
        QueueBench bench = new QueueBench();
        check.due("feed of a=12;b=34;c=56;!789;",
                bench.feed(0x32313d61, 0x333d623b, 0x3d633b34, 0x213b3635, 0x3b393837), 20);
        check.due("compile()", bench.compile(), 0);
        bench.start();
        bench.run(9);
        check.due("name(0)", bench.name(0), 12);
        check.due("name(1)", bench.name(1), 34);
        check.due("name(2)", bench.name(2), 56);
        check.due("output(0)", bench.output(0), 789);
    }

    private static void zeroIsNoSign(Check check) {
        QueueBench bench = new QueueBench();
        check.due("feed of nothing", bench.feed(0, 0, 0, 0, 0), 0);
        check.due("feed with gaps", bench.feed(0x3d000061, 0, 0x31000000, 0x00320000, 0x00003b00), 5);
        check.due("feed behind them", bench.feed(0, 0, 0, 0, '!'), 6);
        check.due("compile()", bench.compile(), 7);
        bench.feed('7', ';', 0, 0, 0);
        check.due("compile()", bench.compile(), 0);
        bench.start();
        bench.run(2);
        check.due("name(0)", bench.name(0), 12);
        check.due("output(0)", bench.output(0), 7);
    }

    private static void signsAboveSevenBits(Check check) {
        QueueBench bench = new QueueBench();
        check.due("feed(-1, 0, 0, 0, MIN_VALUE)", bench.feed(-1, 0, 0, 0, Integer.MIN_VALUE), 5);
        check.due("compile()", bench.compile(), 1);
        bench.clear();
        bench.feed(0xa0a0313d, 0, 0, 0, 0);
        check.due("compile() of =1 and two signs 160", bench.compile(), 1);
        bench.clear();
        bench.feed('!', '1', 0xa0, ';', 0);
        check.due("compile() of !1, sign 160, ;", bench.compile(), 3);
    }

    private static void textHasAtMost3000Signs(Check check) {
        QueueBench bench = new QueueBench();
        for (int k = 1; k <= 149; k++) {
            check.due("feed " + k, bench.feed(0x20202020, 0x20202020, 0x20202020, 0x20202020, 0x20202020), 20 * k);
        }
        bench.feed(0x20202020, 0x20202020, 0x20202020, 0x20202020, 0x00202020);
        check.due("count(0)", bench.count(0), 2999);
        check.refuses("two signs more", IllegalStateException.class, () -> bench.feed(0, 0, 0x20000020, 0, 0));
        check.refuses("two signs in a", IllegalStateException.class, () -> bench.feed(0x2020, 0, 0, 0, 0));
        check.refuses("two signs in b", IllegalStateException.class, () -> bench.feed(0, 0x2020, 0, 0, 0));
        check.refuses("two signs in d", IllegalStateException.class, () -> bench.feed(0, 0, 0, 0x2020, 0));
        check.refuses("two signs in e", IllegalStateException.class, () -> bench.feed(0, 0, 0, 0, 0x2020));
        check.refuses("twenty signs more", IllegalStateException.class,
                () -> bench.feed(0x20202020, 0x20202020, 0x20202020, 0x20202020, 0x20202020));
        check.due("count(0) behind them", bench.count(0), 2999);
        check.due("the last sign", bench.feed(0, 0, 0, 0x3b000000, 0), 3000);
        check.due("none more", bench.feed(0, 0, 0, 0, 0), 3000);
        check.refuses("one more", IllegalStateException.class, () -> bench.feed(0, 0, 0, 0, 32));
        check.due("compile()", bench.compile(), 3000);
        check.due("clear()", bench.clear(), 3000);
        check.due("feed behind clear()", bench.feed(32, 0, 0, 0, 0), 1);
    }
}
