import java.util.Random;
import java.util.function.IntSupplier;

/** The class answers as the model does, over many texts and calls that are always the same. */
final class ModelTest {
    private static final int RUNS = 5000;
    /** What an object answers behind its 512th call is free, so the run is over then. */
    private static final int MOST_CALLS = 512;
    private static final int PLACES_ASKED = 30;
    private static final String SIGNS = "abcAB019=@!?*{}:;()+-/%<# \n";

    private final Random random;
    private final QueueBench bench = new QueueBench();
    private final Model model = new Model();
    private final StringBuilder story = new StringBuilder();
    private int calls;

    private ModelTest(long seed) {
        random = new Random(seed);
    }

    public static void main(String[] args) {
        int wrong = 0;
        int[] seen = new int[6];
        for (int seed = 0; seed < RUNS && wrong < 5; seed++) {
            ModelTest test = new ModelTest(seed);
            if (!test.agrees(seen)) {
                wrong++;
                System.out.println("seed " + seed + ":\n" + test.story);
            }
        }
        System.out.println("ModelTest: " + RUNS + " runs, programs in state 0 .. 4: " + seen[0] + ", " + seen[1]
                + ", " + seen[2] + ", " + seen[3] + ", " + seen[4] + ", faults: " + seen[5]);
        for (int each : seen) {
            // If a kind of run is missing, the texts do not test what they should.
            if (each < 100) {
                wrong++;
                System.out.println("a kind of run is too rare");
            }
        }
        if (wrong != 0) {
            System.exit(1);
        }
    }

    private boolean agrees(int[] seen) {
        boolean good = true;
        for (int k = 0; k < 4 && good && calls < MOST_CALLS; k++) {
            String text = nextText();
            good = feeds(text) && same("compile()", bench::compile, model::compile) && looksAtTerms(text);
            if (good && model.count(1) > 0) {
                good = runs(seen);
            } else {
                seen[5]++;
            }
            if (random.nextInt(3) > 0) {
                good = good && same("clear()", bench::clear, model::clear);
            }
        }
        return good;
    }

    private String nextText() {
        String text = new ProgramMaker(random).program();
        if (random.nextInt(3) > 0) {
            return text;
        }
        StringBuilder changed = new StringBuilder(text);
        for (int k = random.nextInt(3); k >= 0 && changed.length() > 0; k--) {
            int at = random.nextInt(changed.length());
            char sign = SIGNS.charAt(random.nextInt(SIGNS.length()));
            switch (random.nextInt(3)) {
                case 0 -> changed.setCharAt(at, sign);
                case 1 -> changed.insert(at, sign);
                default -> changed.deleteCharAt(at);
            }
        }
        return changed.toString();
    }

    private boolean feeds(String text) {
        story.append(text).append('\n');
        for (int from = 0; from < text.length(); from += 8) {
            int a = Texts.packed(text, from);
            int b = Texts.packed(text, from + 4);
            if (!same("feed", () -> bench.feed(0, a, 0, 0, b), () -> model.feed(0, a, 0, 0, b))) {
                return false;
            }
        }
        return true;
    }

    private boolean looksAtTerms(String text) {
        for (int what = -1; what < 5; what++) {
            int each = what;
            if (!same("count " + each, () -> bench.count(each), () -> model.count(each))) {
                return false;
            }
        }
        int from = random.nextInt(text.length() + 2) - 1;
        for (int place = from; place <= text.length() && place < from + PLACES_ASKED; place++) {
            int each = place;
            if (!same("terms " + each, () -> bench.terms(each), () -> model.terms(each))) {
                return false;
            }
        }
        return true;
    }

    private boolean runs(int[] seen) {
        if (!same("start()", () -> began(bench::start), () -> began(model::start))) {
            return false;
        }
        boolean good = looks();
        for (int k = random.nextInt(12); k >= 0 && good; k--) {
            int n = nextNumberOfSteps();
            good = same("run " + n, () -> bench.run(n), () -> model.run(n)) && looks();
            if (good && random.nextInt(3) == 0) {
                int value = random.nextInt(5) - 1;
                good = same("give " + value, () -> bench.give(value), () -> model.give(value));
            }
        }
        if (calls < MOST_CALLS) {
            seen[model.state(0)]++;
        }
        return good;
    }

    private int nextNumberOfSteps() {
        switch (random.nextInt(10)) {
            case 0:
                return 400;
            case 1:
                return random.nextInt(3) - 1;
            default:
                return random.nextInt(6);
        }
    }

    private static int began(Runnable start) {
        start.run();
        return 0;
    }

    private boolean looks() {
        boolean good = true;
        for (int k = 0; k < 5 && good; k++) {
            int each = k;
            good = same("state " + each, () -> bench.state(each), () -> model.state(each))
                    && same("name " + each, () -> bench.name(each), () -> model.name(each));
        }
        for (int k = 0; k < 5 && good; k++) {
            int each = k < 3 ? k : random.nextInt(102) - 1;
            good = same("cell " + each, () -> bench.cell(each), () -> model.cell(each));
        }
        int total = good && calls < MOST_CALLS ? model.state(2) : 0;
        for (int back : new int[] {0, 1, 2, 1 + random.nextInt(200), 200, 201}) {
            int each = total - back;
            good = good && same("output " + each, () -> bench.output(each), () -> model.output(each));
        }
        return good;
    }

    private boolean same(String call, IntSupplier got, IntSupplier due) {
        if (calls == MOST_CALLS) {
            return true;
        }
        calls++;
        String gotten = answer(got);
        String wanted = answer(due);
        if (gotten.equals(wanted)) {
            return true;
        }
        story.append("call ").append(calls).append(", ").append(call).append(": answered ").append(gotten)
                .append(", due is ").append(wanted).append('\n');
        return false;
    }

    private static String answer(IntSupplier call) {
        try {
            return String.valueOf(call.getAsInt());
        } catch (RuntimeException e) {
            return "throws " + e.getClass().getName();
        }
    }
}
