/** Looks whether texts are programs, each with a new object. */
final class Faults {
    private final Check check;

    Faults(Check check) {
        this.check = check;
    }

    void sentence(String quoted) {
        check.sentence(quoted);
    }

    void good(String text) {
        check.due("compile() of " + text, Texts.compile(new QueueBench(), text), 0);
    }

    void fault(String text, int place) {
        check.due("compile() of " + text, Texts.compile(new QueueBench(), text), place + 1);
    }
}
