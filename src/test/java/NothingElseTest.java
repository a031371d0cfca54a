import java.util.NoSuchElementException;

/** Calls change what the document says, and nothing else, in every situation. */
final class NothingElseTest {
    private static final Check CHECK = new Check();

    public static void main(String[] args) {
        for (Situation situation : Situation.values()) {
            askingChangesNothing(situation);
            feedAndClearChangeTheTextAlone(situation);
            giveChangesTheInputAlone(situation);
        }
        CHECK.end("NothingElseTest");
    }

    private static void askingChangesNothing(Situation situation) {
        CHECK.sentence("Nothing is promised beyond the answers and state changes described above: "
                + "count, terms, state, output, name, cell, run(0), feed of nothing, " + situation);
        CHECK.keeps("feed of nothing", situation::make, x -> x.feed(0, 0, 0, 0, 0));
        for (int k = 0; k < 4; k++) {
            int what = k;
            CHECK.keeps("count(" + what + ")", situation::make, x -> x.count(what));
        }
        if (situation.hasProgram) {
            int place = placeOfAStep(situation.make());
            CHECK.keeps("terms(" + place + ")", situation::make, x -> x.terms(place));
        }
        if (situation.isStarted) {
            askingWhatRuns(situation);
        }
    }

    private static int placeOfAStep(QueueBench bench) {
        for (int place = 0; place < 20; place++) {
            try {
                bench.terms(place);
                return place;
            } catch (NoSuchElementException e) {
                continue;
            }
        }
        throw new AssertionError("no step begins there");
    }

    private static void askingWhatRuns(Situation situation) {
        CHECK.keeps("run(0)", situation::make, x -> x.run(0));
        for (int k = 0; k < 5; k++) {
            int what = k;
            CHECK.keeps("state(" + what + ")", situation::make, x -> x.state(what));
        }
        CHECK.keeps("name(0)", situation::make, x -> x.name(0));
        CHECK.keeps("name(25)", situation::make, x -> x.name(25));
        CHECK.keeps("cell(0)", situation::make, x -> x.cell(0));
        CHECK.keeps("cell(99)", situation::make, x -> x.cell(99));
        if (situation.make().state(2) > 0) {
            CHECK.keeps("output(state(2) - 1)", situation::make, x -> x.output(x.state(2) - 1));
        }
    }

    private static void feedAndClearChangeTheTextAlone(Situation situation) {
        CHECK.sentence("Signs come behind the text; the text is empty (and nothing else changes), " + situation);
        if (situation != Situation.WITH_FULL_TEXT) {
            CHECK.keepsAllBut("count(0)", "feed", situation.make(), x -> x.feed(';', 0, 0, 0, 0));
        }
        CHECK.keepsAllBut("count(0)", "clear()", situation.make(), QueueBench::clear);
    }

    private static void giveChangesTheInputAlone(Situation situation) {
        CHECK.sentence("A value comes behind the input (and nothing else changes), " + situation);
        if (situation != Situation.WITH_FULL_INPUT) {
            CHECK.keepsAllBut("count(3)", "give", situation.make(), x -> x.give(5));
        } else {
            CHECK.due("count(3)", situation.make().count(3), 300);
        }
    }
}
