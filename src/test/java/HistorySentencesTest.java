/** The history, and promises 14 to 16: for each sentence that names a boundary case a test of its own. */
public final class HistorySentencesTest extends Sentences {
    public static void main(String[] args) throws IllegalAccessException {
        run(HistorySentencesTest.class);
    }

    /** A story of so many changes: the value of the cell 0 of the stripe 0 counts them. */
    private static Story written(int changes) {
        Story story = Story.fresh();
        for (int value = 1; value <= changes; value++) {
            int next = value;
            story = story.and(x -> x.write(0, 0, next));
        }
        return story;
    }

    // ---- the history

    @Sentence(at = "HISTORY", says = "A history of at most 4 states is kept.")
    static void fromNoneToFourStates() {
        for (int changes = 0; changes <= 6; changes++) {
            due("states after " + changes + " changes", written(changes).told().total(10), Math.min(changes, 4));
        }
    }

    @Sentence(at = "HISTORY", says = "if there are 4 already, the oldest one is dropped")
    static void theFifthDropsTheOldest() {
        LocalMenders four = written(4).told();
        for (int value = 3; value >= 0; value--) {
            due("undo of four", four.undo(), value);
            due("value", four.value(0, 0), value);
        }
        due("no more", four.undo(), NONE);
        LocalMenders five = written(5).told();
        for (int value = 4; value >= 1; value--) {
            due("undo of five", five.undo(), value - 1);
            due("value", five.value(0, 0), value);
        }
        due("the first one is gone", five.undo(), NONE);
        due("value", five.value(0, 0), 1);
        LocalMenders eleven = written(11).told();
        for (int value = 10; value >= 7; value--) {
            due("undo of eleven", eleven.undo(), value - 7);
            due("value", eleven.value(0, 0), value);
        }
        due("no more", eleven.undo(), NONE);
    }

    @Sentence(at = "HISTORY", says = "Each call of a method that is described as a change, and that returns neither an error nor NONE, records the state before it")
    static void eachMethodThatIsAChange() {
        Story rich = Story.rich();
        Story few = rich.back(2);
        for (Story story : new Story[] {rich, few}) {
            story.changes("setLayout", x -> x.setLayout(1, 2, 1, 0), 5);
            story.changes("write", x -> x.write(1, 0, 1), 0);
            story.changes("alter", x -> x.alter(1, 0, 1), 0);
            story.changes("lose", x -> x.lose(1, 0), story == rich ? 4 : 2);
            story.changes("loseNode", x -> x.loseNode(0), 4);
            story.changes("mend", x -> x.mend(2, 7), story == rich ? 8 : 3);
            story.changes("mendNode", x -> x.mendNode(9), story == rich ? 14 : 3);
            story.changes("work", x -> x.work(1), 1);
            story.changes("scrub", LocalMenders::scrub, 1);
            story.changes("perform", LocalMenders::perform, 2);
            story.changes("restore", LocalMenders::restore, 0);
        }
    }

    @Sentence(at = "HISTORY", says = "and that returns neither an error nor NONE")
    static void errorsAndNoneRecordNothing() {
        Story rich = Story.rich().and(x -> x.mendNode(9)).and(LocalMenders::scrub);
        Story few = rich.back(2);
        for (Story story : new Story[] {rich, few, Story.fresh()}) {
            story.refuses("setLayout", x -> x.setLayout(0, 2, 1, 0), OUT_OF_RANGE);
            story.refuses("write", x -> x.write(1, 6, 1), UNKNOWN);
            story.refuses("write of the same", x -> x.write(1, 0, 0), NONE);
            story.refuses("alter", x -> x.alter(1, 0, 16), OUT_OF_RANGE);
            story.refuses("alter to the same", x -> x.alter(1, 0, 0), NONE);
            story.refuses("lose", x -> x.lose(4, 0), UNKNOWN);
            story.refuses("loseNode", x -> x.loseNode(10), UNKNOWN);
            story.refuses("mend", x -> x.mend(1, 0), NONE);
            story.refuses("mendNode", x -> x.mendNode(0), NONE);
            story.refuses("work", x -> x.work(51), OUT_OF_RANGE);
        }
        rich.refuses("lose of a lost cell", x -> x.lose(2, 3), NONE);
        rich.refuses("scrub", LocalMenders::scrub, NONE);
        rich.typed(";").refuses("perform", LocalMenders::perform, -112);
        Story.fresh().refuses("restore", LocalMenders::restore, NONE);
        Story.fresh().refuses("work", x -> x.work(1), NONE);
    }

    @Sentence(at = "HISTORY", says = "There is one snapshot, empty at first.")
    static void oneSnapshotEmptyAtFirst() {
        due("at first", new LocalMenders().restore(), NONE);
        LocalMenders x = written(1).and(LocalMenders::keep).and(a -> a.write(0, 0, 2)).and(LocalMenders::keep).and(a -> a.write(0, 0, 3)).told();
        due("restore", x.restore(), 0);
        due("the latest one", x.value(0, 0), 2);
        due("restore again", x.restore(), 0);
        due("no earlier one behind it", x.value(0, 0), 2);
    }

    @Sentence(at = "HISTORY", says = "The state is everything except the text, the history and the snapshot.")
    static void undoBringsBackTheLayoutAndAllCounts() {
        Story rich = Story.rich();
        Story changed = rich.and(x -> x.setLayout(3, 5, 8, 5)).and(x -> x.write(7, 14, 15)).and(x -> x.loseNode(19)).and(x -> x.work(50));
        same("all four undone", changed.back(4).state(), rich.state());
        int[] totals = {2, 3, 4, 1, 10, 3, 9, 2, 1, 5, 0, 11};
        for (int what = 0; what < totals.length; what++) {
            due("total(" + what + ")", changed.back(4).told().total(what), totals[what]);
        }
    }

    @Sentence(at = "HISTORY", says = "The state is everything except the text, the history and the snapshot.")
    static void undoLeavesTextAndSnapshot() {
        Story story = written(2).and(x -> x.type('n')).and(x -> x.write(0, 0, 3)).and(x -> x.type('0')).and(LocalMenders::keep);
        for (int back = 1; back <= 3; back++) {
            LocalMenders x = story.back(back).told();
            due("length", x.total(11), 2);
            due("restore", x.restore(), 0);
            due("value", x.value(0, 0), 3);
            due("perform", x.perform(), 1);
        }
    }

    @Sentence(at = "HISTORY", says = "The state is everything except the text, the history and the snapshot.")
    static void restoreLeavesTextAndHistory() {
        Story story = written(2).and(LocalMenders::keep).and(x -> x.type('n')).and(x -> x.write(0, 0, 3)).and(x -> x.type('0'));
        LocalMenders x = story.and(LocalMenders::restore).told();
        due("length", x.total(11), 2);
        due("states", x.total(10), 4);
        for (int value : new int[] {3, 2, 1, 0}) {
            x.undo();
            due("value", x.value(0, 0), value);
        }
        due("no more", x.undo(), NONE);
    }

    // ---- undo

    @Sentence(at = "Promise 14", says = "NONE if the history is empty")
    static void p14TheEmptyHistory() {
        Story.fresh().refuses("a new object", LocalMenders::undo, NONE);
        Story.rich().back(4).refuses("all undone", LocalMenders::undo, NONE);
        written(1).back(1).refuses("the only one undone", LocalMenders::undo, NONE);
    }

    @Sentence(at = "Promise 14", says = "Returns how many states are left")
    static void p14FromThreeToNone() {
        LocalMenders x = Story.rich().told();
        for (int left = 3; left >= 0; left--) {
            due("undo", x.undo(), left);
            due("total(10)", x.total(10), left);
        }
        due("undo", x.undo(), NONE);
        due("the only one", written(1).told().undo(), 0);
    }

    @Sentence(at = "Promise 14", says = "Restores the latest state of the history, and removes it from there.")
    static void p14UndoIsNoChangeItself() {
        LocalMenders x = written(3).told();
        due("undo", x.undo(), 2);
        due("undo goes on", x.undo(), 1);
        due("value", x.value(0, 0), 1);
        x.write(0, 0, 9);
        due("a change behind it is recorded", x.total(10), 2);
        due("undo", x.undo(), 1);
        due("value", x.value(0, 0), 1);
        due("undo", x.undo(), 0);
        due("value", x.value(0, 0), 0);
    }

    @Sentence(at = "Promise 14", says = "Restores the latest state of the history, and removes it from there.")
    static void p14ThereIsRoomAgainBehindAFullHistory() {
        LocalMenders x = written(6).back(1).and(a -> a.write(0, 0, 9)).told();
        due("four again", x.total(10), 4);
        for (int value : new int[] {5, 4, 3, 2}) {
            x.undo();
            due("none was dropped", x.value(0, 0), value);
        }
        due("no more", x.undo(), NONE);
    }

    // ---- keep

    @Sentence(at = "Promise 15", says = "Returns how many cells are lost.")
    static void p15FromNoneToAll() {
        due("none", new LocalMenders().keep(), 0);
        due("some", Story.rich().told().keep(), 3);
        LocalMenders x = store(3, 5, 8, 5);
        for (int node = 0; node < 20; node++) {
            x.loseNode(node);
        }
        due("all", x.keep(), 160);
        due("restore", x.restore(), 160);
    }

    @Sentence(at = "Promise 15", says = "Takes a snapshot of the state, in place of an earlier one.")
    static void p15InPlaceOfAnEarlierOne() {
        Story rich = Story.rich();
        same("the later one", rich.and(LocalMenders::keep).and(x -> x.setLayout(1, 2, 1, 0)).and(LocalMenders::restore).state(), rich.state());
        Story fewer = rich.and(x -> x.setLayout(1, 2, 1, 0)).and(LocalMenders::keep).and(x -> x.setLayout(3, 5, 8, 5)).and(x -> x.loseNode(0));
        due("restore", fewer.told().restore(), 0);
        due("the smaller layout", fewer.and(LocalMenders::restore).told().total(4), 5);
    }

    @Sentence(at = "Promise 15", says = "Takes a snapshot of the state")
    static void p15IsNoChange() {
        for (Story story : new Story[] {Story.fresh(), Story.rich(), Story.rich().back(1)}) {
            Story kept = story.and(LocalMenders::keep);
            same("state", kept.state(), story.state());
            due("states", kept.told().total(10), story.told().total(10));
            same("undo", kept.back(1).state(), story.back(1).state());
            due("text", kept.told().total(11), story.told().total(11));
        }
    }

    // ---- restore

    @Sentence(at = "Promise 16", says = "NONE if there is no snapshot")
    static void p16NoSnapshot() {
        Story.fresh().refuses("a new object", LocalMenders::restore, NONE);
        written(6).typed("n0").refuses("after changes", LocalMenders::restore, NONE);
    }

    @Sentence(at = "Promise 16", says = "Restores the state of the snapshot, which stays.")
    static void p16TheSnapshotStays() {
        Story rich = Story.rich();
        Story kept = rich.and(LocalMenders::keep);
        Story away = kept.and(x -> x.setLayout(3, 5, 8, 5)).and(x -> x.loseNode(19)).and(x -> x.work(50));
        Story back = away.and(LocalMenders::restore);
        same("once", back.state(), rich.state());
        Story changed = back.and(x -> x.work(50)).and(x -> x.alter(0, 0, 15)).and(x -> x.loseNode(3));
        same("twice, with changes between", changed.and(LocalMenders::restore).state(), rich.state());
        same("three times", changed.and(LocalMenders::restore).and(LocalMenders::restore).and(LocalMenders::restore).state(), rich.state());
        same("undone", away.and(LocalMenders::restore).back(1).state(), away.state());
    }

    @Sentence(at = "Promise 16", says = "This is a change.")
    static void p16IsAChangeAlsoIfNothingDiffers() {
        Story.rich().changes("to another state", LocalMenders::restore, 0);
        Story.rich().and(LocalMenders::keep).changes("to the same state", LocalMenders::restore, 3);
        Story.fresh().and(LocalMenders::keep).changes("a new object", LocalMenders::restore, 0);
    }

    @Sentence(at = "Promise 16", says = "Returns how many cells are lost then")
    static void p16FromNoneToAll() {
        due("none", Story.fresh().and(LocalMenders::keep).and(x -> x.loseNode(0)).told().restore(), 0);
        due("some", Story.rich().and(LocalMenders::keep).and(x -> x.work(50)).told().restore(), 3);
        Story all = Story.layout(1, 2, 1, 0).losing(0, 0, 1, 2, 3, 4).and(LocalMenders::keep).and(x -> x.setLayout(1, 2, 8, 0));
        due("all", all.told().restore(), 5);
        queueIs("in their order", all.and(LocalMenders::restore).told(), 0, 1, 2, 3, 4);
    }
}
