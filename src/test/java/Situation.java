/** Objects in every situation that a call can meet. */
enum Situation {
    NEW(false, false),
    FED(false, false),
    COMPILED(true, false),
    STARTED(true, true),
    IN_A_CALL(true, true),
    ENDED(true, true),
    WITHOUT_STEPS(true, true),
    DIVIDED_BY_ZERO(true, true),
    WITHOUT_SUCH_CELL(true, true),
    WITHOUT_INPUT(true, true),
    WITH_250_OUTPUTS(true, true),
    WITH_CLEARED_TEXT(true, true),
    WITH_ANOTHER_TEXT(true, true),
    COMPILED_AGAIN(true, false),
    BEHIND_A_FAULT(false, false),
    WITH_FULL_TEXT(true, true),
    WITH_FULL_INPUT(true, true);

    /** Steps begin at 2, 5, 14, 19, 21, 27 and 34; with 18 values of input it comes to trouble 2. */
    static final String LOOP = "A{!#;@a=#+b;}\n*a<9{A;a=a+1;b=b-a;}!a/(b-b);";

    final boolean hasProgram;
    final boolean isStarted;

    Situation(boolean hasProgram, boolean isStarted) {
        this.hasProgram = hasProgram;
        this.isStarted = isStarted;
    }

    QueueBench make() {
        switch (this) {
            case NEW:
                return new QueueBench();
            case FED:
                return given(fed(new QueueBench(), LOOP), 20);
            case COMPILED:
                return given(Texts.compiled(LOOP), 20);
            case STARTED:
                return run(LOOP, 20, 0);
            case IN_A_CALL:
                return run(LOOP, 20, 9);
            case ENDED:
                return run("!7;*a<3{a=a+1;!a;@a=-a;}", 2, 1000);
            case WITHOUT_STEPS:
                return run(" A{!1;}", 1, 0);
            case DIVIDED_BY_ZERO:
                return run(LOOP, 20, 1000);
            case WITHOUT_SUCH_CELL:
                return run("a=98;*1{a=a+1;@a=#;!a;}", 20, 1000);
            case WITHOUT_INPUT:
                return run(LOOP, 5, 1000);
            case WITH_250_OUTPUTS:
                return run("*1{a=a+1;!a;}", 0, 750);
            default:
                return madeFromOther();
        }
    }

    private QueueBench madeFromOther() {
        QueueBench bench = run(LOOP, this == WITH_FULL_INPUT ? 300 : 20, 9);
        switch (this) {
            case WITH_CLEARED_TEXT:
                bench.clear();
                break;
            case WITH_ANOTHER_TEXT:
                bench.clear();
                fed(bench, "!1;!2;");
                break;
            case COMPILED_AGAIN:
                bench.compile();
                break;
            case BEHIND_A_FAULT:
                Texts.compile(bench, LOOP + "}");
                break;
            case WITH_FULL_TEXT:
                Texts.fill(bench, 3000);
                break;
            default:
                break;
        }
        return bench;
    }

    private static QueueBench run(String text, int inputs, int steps) {
        QueueBench bench = given(Texts.started(text), inputs);
        bench.run(steps);
        return bench;
    }

    private static QueueBench fed(QueueBench bench, String text) {
        Texts.feed(bench, text);
        return bench;
    }

    private static QueueBench given(QueueBench bench, int values) {
        for (int k = 0; k < values; k++) {
            bench.give(k * k - 7);
        }
        return bench;
    }
}
