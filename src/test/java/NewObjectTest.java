import java.util.NoSuchElementException;

/** Promise 1: a new object. */
final class NewObjectTest {
    private static final Check CHECK = new Check();

    public static void main(String[] args) {
        noText();
        noProgram();
        noInput();
        nothingOfAnotherObject();
        lifeOfAnObject();
        CHECK.end("NewObjectTest");
    }

    private static void noText() {
        CHECK.sentence("No text");
        CHECK.due("count(0)", new QueueBench().count(0), 0);
        CHECK.due("clear()", new QueueBench().clear(), 0);
        CHECK.due("feed of nothing", new QueueBench().feed(0, 0, 0, 0, 0), 0);
        CHECK.due("feed of one sign", new QueueBench().feed('a', 0, 0, 0, 0), 1);
        QueueBench bench = new QueueBench();
        CHECK.due("compile()", bench.compile(), 0);
        CHECK.due("count(1)", bench.count(1), 0);
    }

    private static void noProgram() {
        CHECK.sentence("no program");
        CHECK.due("count(1)", new QueueBench().count(1), 0);
        CHECK.due("count(2)", new QueueBench().count(2), 0);
        CHECK.refuses("start()", IllegalStateException.class, QueueBench::new, QueueBench::start);
        CHECK.refuses("run(0)", IllegalStateException.class, QueueBench::new, x -> x.run(0));
        for (int what = 0; what < 5; what++) {
            int each = what;
            CHECK.refuses("state(" + each + ")", IllegalStateException.class, QueueBench::new, x -> x.state(each));
        }
        CHECK.refuses("output(0)", NoSuchElementException.class, QueueBench::new, x -> x.output(0));
        CHECK.refuses("name(0)", NoSuchElementException.class, QueueBench::new, x -> x.name(0));
        CHECK.refuses("cell(0)", NoSuchElementException.class, QueueBench::new, x -> x.cell(0));
        CHECK.refuses("terms(0)", NoSuchElementException.class, QueueBench::new, x -> x.terms(0));
    }

    private static void noInput() {
        CHECK.sentence("no input");
        CHECK.due("count(3)", new QueueBench().count(3), 0);
        CHECK.due("give(7)", new QueueBench().give(7), 1);
        QueueBench bench = Texts.run("a=#;");
        CHECK.due("state(0)", bench.state(0), 4);
    }

    private static void nothingOfAnotherObject() {
        CHECK.sentence("A new object");
        QueueBench one = Texts.run("a=1;@2=3;!4;", 5);
        QueueBench other = new QueueBench();
        for (int what = 0; what < 4; what++) {
            CHECK.due("count(" + what + ") of another object", other.count(what), 0);
        }
        CHECK.due("compile() of another object", other.compile(), 0);
        other.start();
        CHECK.due("name(0) of another object", other.name(0), 0);
        CHECK.due("cell(2) of another object", other.cell(2), 0);
        CHECK.due("state(2) of another object", other.state(2), 0);
        CHECK.due("name(0) of the first one", one.name(0), 1);
        CHECK.due("cell(2) of the first one", one.cell(2), 3);
        CHECK.due("output(0) of the first one", one.output(0), 4);
        CHECK.due("count(1) of the first one", one.count(1), 3);
    }

    private static void lifeOfAnObject() {
        CHECK.sentence("An object is used for at most 512 calls after it has been made");
        QueueBench bench = new QueueBench();
        String part = "a=a+#;      !a+7;   ";
        for (int call = 1; call <= 150; call++) {
            CHECK.due("call " + call + ", feed", bench.feed(Texts.packed(part, 0), Texts.packed(part, 4),
                    Texts.packed(part, 8), Texts.packed(part, 12), Texts.packed(part, 16)), 20 * call);
        }
        for (int call = 151; call <= 450; call++) {
            CHECK.due("call " + call + ", give", bench.give(call), call - 150);
        }
        CHECK.due("call 451, compile", bench.compile(), 0);
        bench.start();
        CHECK.due("call 453, run", bench.run(1000), 300);
        int sum = 0;
        for (int call = 454; call <= 511; call++) {
            sum += call - 303;
            CHECK.due("call " + call + ", output", bench.output(call - 454), sum + 7);
        }
        CHECK.due("call 512, terms", bench.terms(2980), 3);
    }
}
