/** Promise 13: count. */
final class CountTest {
    public static void main(String[] args) {
        Check check = new Check();
        QueueBench bench = new QueueBench();
        counts(check, bench, "of a new object", 0, 0, 0, 0);
        Texts.feed(bench, "Z{a=1;?a{!a;}:{}}B{*0{Z;}}C{}@1=2;B;");
        bench.give(4);
        counts(check, bench, "ahead of compile()", 36, 0, 0, 1);
        bench.compile();
        counts(check, bench, "behind compile()", 36, 7, 3, 1);
        bench.start();
        bench.run(1000);
        bench.feed(' ', '!', 0, 0, 0);
        bench.give(4);
        counts(check, bench, "behind run", 38, 7, 3, 2);
        bench.clear();
        counts(check, bench, "behind clear()", 0, 7, 3, 2);
        Texts.compile(bench, "A{}!1;}");
        counts(check, bench, "behind a fault", 7, 0, 0, 2);
        Texts.compile(bench, "A{}!1;");
        counts(check, bench, "behind another program", 6, 1, 1, 2);
        for (int what : new int[] {-1, 4, 5, Integer.MIN_VALUE, Integer.MAX_VALUE}) {
            check.refuses("count(" + what + ")", IllegalArgumentException.class, () -> bench.count(what));
        }
        counts(check, bench, "behind wrong calls", 6, 1, 1, 2);
        check.end("CountTest");
    }

    private static void counts(Check check, QueueBench bench, String when, int... due) {
        for (int what = 0; what < due.length; what++) {
            check.due("count(" + what + ") " + when, bench.count(what), due[what]);
        }
    }
}
