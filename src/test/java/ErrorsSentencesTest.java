import java.util.ArrayList;
import java.util.List;

/** The errors, what the interface says ahead of its calls, and how long an object is used: tests of single sentences. */
public final class ErrorsSentencesTest extends Sentences {
    private static final int[] NUMBERS = {LEAST, LEAST + 1, -100, -5, -2, -1, 0, 1, 2, 3, 4, 5, 6, 7, 8, 9, 10, 15, 16, 20, 31, 32, 50, 51, 99, 100,
        1023, 1024, 1 << 20, 1 << 30, GREATEST - 1, GREATEST};

    public static void main(String[] args) throws IllegalAccessException {
        run(ErrorsSentencesTest.class);
    }

    /** States in which calls are refused for many reasons. */
    private static Story[] states() {
        return new Story[] {Story.fresh(), Story.rich(), Story.rich().losing(1, 0, 1, 2, 6), Story.rich().and(x -> x.work(3)).and(LocalMenders::scrub),
            Story.rich().and(x -> x.setLayout(1, 2, 1, 0)), Story.rich().typed(";n9;n9;n9;n9;n9;n9;n9;n9;n9;n9;n9;n9;n9;n9;n9;n9")};
    }

    private static List<Story.Call> changes() {
        List<Story.Call> calls = new ArrayList<>();
        for (int a : NUMBERS) {
            calls.add(x -> x.setLayout(a, 3, 4, 1));
            calls.add(x -> x.setLayout(2, a, 4, 1));
            calls.add(x -> x.setLayout(2, 3, a, 1));
            calls.add(x -> x.setLayout(2, 3, 4, a));
            calls.add(x -> x.loseNode(a));
            calls.add(x -> x.mendNode(a));
            calls.add(x -> x.work(a));
            for (int other : new int[] {-1, 0, 2, 16}) {
                calls.add(x -> x.write(a, 0, other));
                calls.add(x -> x.write(1, a, other));
                calls.add(x -> x.write(2, other, a));
                calls.add(x -> x.alter(a, 0, other));
                calls.add(x -> x.alter(2, a, other));
                calls.add(x -> x.alter(0, other, a));
                calls.add(x -> x.lose(a, other));
                calls.add(x -> x.lose(other, a));
                calls.add(x -> x.mend(a, other));
                calls.add(x -> x.mend(other, a));
            }
        }
        calls.add(LocalMenders::scrub);
        calls.add(LocalMenders::perform);
        calls.add(LocalMenders::undo);
        calls.add(LocalMenders::restore);
        calls.add(x -> x.type('n'));
        calls.add(x -> x.type((char) 0xffff));
        return calls;
    }

    private static List<Story.Call> looks() {
        List<Story.Call> calls = new ArrayList<>();
        for (int a : NUMBERS) {
            calls.add(x -> x.load(a));
            calls.add(x -> x.lost(a));
            calls.add(x -> x.waiting(a));
            calls.add(x -> x.failing(a));
            calls.add(x -> x.total(a));
            for (int other : new int[] {-1, 0, 2, 9}) {
                calls.add(x -> x.value(a, other));
                calls.add(x -> x.value(other, a));
                calls.add(x -> x.node(a, other));
                calls.add(x -> x.node(other, a));
            }
        }
        return calls;
    }

    private static List<Story.Call> looksAhead() {
        List<Story.Call> calls = new ArrayList<>();
        for (int a : NUMBERS) {
            calls.add(x -> x.culprit(a));
            calls.add(x -> x.survives(a));
            calls.add(x -> x.fatalSets(a));
            for (int other : new int[] {-1, 0, 2, 9}) {
                calls.add(x -> x.way(a, other));
                calls.add(x -> x.way(other, a));
                calls.add(x -> x.reads(a, other));
                calls.add(x -> x.reads(other, a));
                calls.add(x -> x.mended(a, other));
                calls.add(x -> x.mended(other, a));
            }
        }
        calls.add(LocalMenders::fatalNodes);
        calls.add(LocalMenders::busiest);
        return calls;
    }

    // ---- errors

    @Sentence(at = "ERRORS", says = "`UNKNOWN = -1`: There is no such stripe, cell or node.")
    static void unknownIsForStripesCellsAndNodes() {
        due("UNKNOWN", LocalMenders.UNKNOWN, -1);
        Story.rich().refuses("no such stripe", x -> x.value(4, 0), -1);
        Story.rich().refuses("no such cell", x -> x.value(0, 10), -1);
        Story.rich().refuses("no such node", x -> x.load(10), -1);
    }

    @Sentence(at = "ERRORS", says = "`OUT_OF_RANGE = -2`: Another argument is out of its range.")
    static void outOfRangeIsForOtherArguments() {
        due("OUT_OF_RANGE", LocalMenders.OUT_OF_RANGE, -2);
        Story.rich().refuses("a value", x -> x.alter(1, 0, 16), -2);
        Story.rich().refuses("steps", x -> x.work(51), -2);
        Story.rich().refuses("a number of stripes", x -> x.setLayout(2, 3, 9, 1), -2);
    }

    @Sentence(at = "ERRORS", says = "`FULL = -3`: There is no more room in the text.")
    static void fullIsForTheText() {
        due("FULL", LocalMenders.FULL, -3);
        Story.fresh().typed("123456789012345678901234567890123456789012345678901234567890").refuses("the 61st character", x -> x.type('1'), -3);
        Story full = Story.layout(1, 2, 1, 0).losing(0, 0, 1, 2, 3, 4);
        full.refuses("a queue has room for all cells", x -> x.lose(0, 0), NONE);
    }

    @Sentence(at = "ERRORS", says = "`NOT_POSSIBLE = -4`: This is not possible in the present state.")
    static void notPossibleIsForThePresentState() {
        due("NOT_POSSIBLE", LocalMenders.NOT_POSSIBLE, -4);
        Story.rich().refuses("with a lost cell", x -> x.failing(2), -4);
        Story.rich().and(x -> x.mend(2, 7)).and(x -> x.mend(2, 3)).leaves("without one", x -> x.failing(2), 0);
    }

    @Sentence(at = "ERRORS", says = "`NONE = -5`: There is no such thing; this is not an error.")
    static void noneIsForWhatThereIsNot() {
        due("NONE", LocalMenders.NONE, -5);
        Story.fresh().refuses("the busiest node", LocalMenders::busiest, -5);
        Story.fresh().refuses("the first of the queue", x -> x.waiting(0), -5);
    }

    @Sentence(at = "ERRORS", says = "If several errors apply, the one that stands first in the @return line is returned.")
    static void unknownStandsAheadOfOutOfRange() {
        Story rich = Story.rich();
        rich.refuses("write of a stripe that there is not", x -> x.write(4, 0, 16), UNKNOWN);
        rich.refuses("write of a cell that there is not", x -> x.write(1, -1, -1), UNKNOWN);
        rich.refuses("write of a parity", x -> x.write(1, 6, 16), UNKNOWN);
        rich.refuses("alter of a stripe that there is not", x -> x.alter(-1, 0, -1), UNKNOWN);
        rich.refuses("alter of a cell that there is not", x -> x.alter(1, 10, 16), UNKNOWN);
    }

    @Sentence(at = "ERRORS", says = "If several errors apply, the one that stands first in the @return line is returned.")
    static void unknownStandsAheadOfNotPossible() {
        Story rich = Story.rich();
        rich.refuses("write of a parity beside lost cells", x -> x.write(2, 6, 1), UNKNOWN);
        rich.refuses("write of a lost parity", x -> x.write(2, 7, 1), UNKNOWN);
        rich.refuses("write of a parity beside lost cells, of no value", x -> x.write(2, 9, 16), UNKNOWN);
        rich.refuses("alter of no cell beside lost cells", x -> x.alter(2, 10, 1), UNKNOWN);
        Story four = rich.losing(1, 0, 1, 2, 6);
        four.refuses("mend of no cell where none can be mended", x -> x.mend(1, 10), UNKNOWN);
        four.leaves("reads of no cell", x -> x.reads(1, 10), UNKNOWN);
        four.leaves("mended of no cell", x -> x.mended(1, -1), UNKNOWN);
    }

    @Sentence(at = "ERRORS", says = "If several errors apply, the one that stands first in the @return line is returned.")
    static void outOfRangeStandsAheadOfNotPossible() {
        Story rich = Story.rich();
        rich.refuses("write beside lost cells", x -> x.write(2, 0, 16), OUT_OF_RANGE);
        rich.refuses("write of a lost cell", x -> x.write(2, 3, -1), OUT_OF_RANGE);
        rich.refuses("alter of a lost cell", x -> x.alter(2, 7, 16), OUT_OF_RANGE);
        rich.refuses("alter of a lost cell", x -> x.alter(0, 9, -1), OUT_OF_RANGE);
    }

    @Sentence(at = "ERRORS", says = "NONE is not an error; it is returned only if no error applies.")
    static void noneStandsBehindAllErrors() {
        Story rich = Story.rich();
        rich.refuses("write of the same value beside lost cells", x -> x.write(2, 0, 0), NOT_POSSIBLE);
        rich.refuses("the value that a lost cell had", x -> x.alter(2, 7, 0), NOT_POSSIBLE);
        Story fresh = Story.fresh();
        fresh.refuses("work on an empty queue", x -> x.work(0), OUT_OF_RANGE);
        fresh.refuses("work on an empty queue", x -> x.work(51), OUT_OF_RANGE);
        fresh.refuses("the empty queue", x -> x.waiting(-1), OUT_OF_RANGE);
        fresh.refuses("a node of which nothing is lost", x -> x.mendNode(10), UNKNOWN);
        fresh.refuses("a cell that is not lost", x -> x.mend(4, 0), UNKNOWN);
        fresh.refuses("a cell that is not lost", x -> x.way(0, 10), UNKNOWN);
        fresh.refuses("a stripe without a culprit", x -> x.culprit(4), UNKNOWN);
        Story.fresh().losing(0, 0).refuses("a consistent stripe without a culprit", x -> x.culprit(0), NOT_POSSIBLE);
    }

    @Sentence(at = "ERRORS", says = "NONE is not an error; it is returned only if no error applies.")
    static void noneEndsNoText() {
        due("NONE among orders", performed("m0.0;w0.0=0;x0.0"), 3);
        due("UNKNOWN among orders", performed("m4.0;w0.0=0;x0.0"), UNKNOWN);
    }

    @Sentence(at = "ERRORS", says = "A method that returns an error or NONE changes nothing.")
    static void whateverIsRefusedChangesNothing() {
        int refused = 0;
        for (Story story : states()) {
            String before = story.everything();
            for (Story.Call call : changes()) {
                if (call.on(story.told()) < 0) {
                    same("after a refused call", story.and(call).everything(), before);
                    refused++;
                }
            }
        }
        due("are many refused?", refused > 2000 ? 1 : 0, 1);
    }

    @Sentence(at = "ERRORS", says = "Errors are reported by the constants below.")
    static void noAnswerIsBelowNoneButForFaults() {
        for (Story story : states()) {
            for (Story.Call call : changes()) {
                int answer = call.on(story.told());
                boolean fault = answer <= -100 && answer >= -160;
                due("is " + answer + " an answer?", answer >= NONE || fault ? 1 : 0, 1);
            }
            for (Story.Call call : looks()) {
                due("is it an answer?", call.on(story.told()) >= NONE ? 1 : 0, 1);
            }
            for (Story.Call call : looksAhead()) {
                due("is it an answer?", call.on(story.told()) >= NONE ? 1 : 0, 1);
            }
        }
    }

    // ---- what the interface says

    @Sentence(at = "ERRORS", says = "the interface says: ---- changes.")
    static void theChangesAreChanges() {
        Story rich = Story.rich();
        Story.Call[] calls = {x -> x.setLayout(2, 3, 4, 1), x -> x.write(1, 0, 1), x -> x.alter(1, 0, 1), x -> x.lose(1, 0), x -> x.loseNode(0), x -> x.mend(0, 9),
            x -> x.mendNode(9), x -> x.work(1), LocalMenders::scrub};
        int[] answers = {10, 0, 0, 4, 4, 6, 14, 1, 1};
        for (int k = 0; k < calls.length; k++) {
            rich.changes("the call " + k, calls[k], answers[k]);
        }
    }

    @Sentence(at = "ERRORS", says = "Ahead of the calls `type`, `clearText`, `perform` the interface says: ---- texts.")
    static void ofTheTextsOnlyPerformIsAChange() {
        due("type", Story.fresh().and(x -> x.type('n')).told().total(10), 0);
        due("clearText", Story.fresh().typed("n").and(LocalMenders::clearText).told().total(10), 0);
        due("perform", Story.fresh().typed("n0").and(LocalMenders::perform).told().total(10), 1);
    }

    @Sentence(at = "ERRORS", says = "Ahead of the calls `undo`, `keep`, `restore` the interface says: ---- history.")
    static void ofTheHistoryOnlyRestoreIsAChange() {
        due("undo", Story.rich().and(LocalMenders::undo).told().total(10), 3);
        due("keep", Story.fresh().and(LocalMenders::keep).told().total(10), 0);
        due("restore", Story.fresh().and(LocalMenders::keep).and(LocalMenders::restore).told().total(10), 1);
    }

    @Sentence(at = "ERRORS", says = "the interface says: ---- what there is.")
    static void looksChangeNothing() {
        for (Story story : states()) {
            String before = story.everything();
            Story looked = story;
            for (Story.Call call : looks()) {
                looked = looked.and(call);
                if (looked.size() > 200) {
                    same("after looks", looked.everything(), before);
                    looked = story;
                }
            }
            same("after looks", looked.everything(), before);
        }
    }

    @Sentence(at = "ERRORS", says = "the interface says: ---- what would be; nothing changes.")
    static void looksAheadChangeNothing() {
        for (Story story : states()) {
            String before = story.everything();
            Story looked = story;
            for (Story.Call call : looksAhead()) {
                looked = looked.and(call);
                if (looked.size() > 200) {
                    same("after looks", looked.everything(), before);
                    looked = story;
                }
            }
            same("after looks", looked.everything(), before);
        }
    }

    // ---- what it is

    @Sentence(at = "What it is", says = "the fewest cells whose loss is fatal")
    static void asManyNodesAsCellsAreFatal() {
        for (int groups = 1; groups <= 4; groups++) {
            for (int size = 2; size <= 6 && groups * size <= 15; size++) {
                LocalMenders x = store(groups, size, 3, 1);
                int fewest = 1;
                while (fewest < 4 && x.fatalSets(fewest) == 0) {
                    fewest++;
                }
                due("fatalSets(" + fewest + ") is 0", x.fatalSets(fewest) == 0 ? 1 : 0, 0);
                due("the nodes of fatalNodes", Integer.bitCount(x.fatalNodes()), fewest);
            }
        }
    }

    @Sentence(at = "What it is", says = "An object is used for at most 512 calls after it has been made")
    static void the512thCallIsAnsweredAsTheFirst() {
        LocalMenders x = new LocalMenders();
        for (int turn = 0; turn < 255; turn++) {
            due("lose", x.lose(turn % 4, 0), 1);
            due("mend", x.mend(turn % 4, 0), 3);
        }
        due("the 511th", x.total(6), 765);
        due("the 512th", x.total(10), 4);
        LocalMenders y = store(3, 5, 8, 5);
        for (int turn = 0; turn < 508; turn++) {
            y.write(turn % 8, turn % 15, 1 + turn % 7);
        }
        due("the 510th", y.total(10), 4);
        due("the 511th", y.undo(), 3);
        due("the 512th", y.failing(3), 0);
    }

    @Sentence(at = "What it is", says = "An object is used for at most 512 calls after it has been made")
    static void theCountsOf512Calls() {
        LocalMenders x = store(3, 5, 8, 0);
        for (int turn = 0; turn < 254; turn++) {
            due("loseNode", x.loseNode(19), 8);
            due("mendNode", x.mendNode(19), 8 * 15);
        }
        due("read", x.total(6), 254 * 120);
        due("mended", x.total(7), 254 * 8);
        due("the 512th", x.load(14), 254 * 8);
    }
}
