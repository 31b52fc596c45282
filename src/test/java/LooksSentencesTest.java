/** Promises 17 to 23, what there is: for each sentence that names a boundary case a test of its own. */
public final class LooksSentencesTest extends Sentences {
    public static void main(String[] args) throws IllegalAccessException {
        run(LooksSentencesTest.class);
    }

    // ---- value

    @Sentence(at = "Promise 17", says = {"`stripe`: a stripe", "UNKNOWN"})
    static void p17Stripe() {
        Story.rich().leaves("the first", x -> x.value(0, 4), 9);
        Story.rich().leaves("the last", x -> x.value(3, 1), 5);
        refusesUnknownStripes("value", (x, stripe) -> x.value(stripe, 4));
        due("the last of eight", store(2, 3, 8, 1).value(7, 0), 0);
        due("behind it", store(2, 3, 8, 1).value(8, 0), UNKNOWN);
        due("the only one", store(2, 3, 1, 1).value(0, 0), 0);
        due("behind it", store(2, 3, 1, 1).value(1, 0), UNKNOWN);
    }

    @Sentence(at = "Promise 17", says = {"`cell`: a cell", "UNKNOWN"})
    static void p17Cell() {
        Story.rich().leaves("the first", x -> x.value(0, 0), 0);
        Story.rich().leaves("the last but one", x -> x.value(0, 8), 8);
        Story.rich().leaves("the last", x -> x.value(1, 9), 0);
        refusesUnknownCells("value", (x, cell) -> x.value(1, cell));
        due("the last of twenty", store(3, 5, 1, 0).value(0, 19), 0);
        due("behind it", store(3, 5, 8, 0).value(0, 20), UNKNOWN);
        due("the last of five", store(1, 2, 1, 0).value(0, 4), 0);
        due("behind it", store(1, 2, 8, 0).value(0, 5), UNKNOWN);
    }

    @Sentence(at = "Promise 17", says = "NONE if the cell is lost")
    static void p17ALostCell() {
        Story.rich().refuses("a global parity", x -> x.value(0, 9), NONE);
        Story.rich().refuses("a local parity", x -> x.value(2, 7), NONE);
        Story.rich().refuses("a data cell", x -> x.value(2, 3), NONE);
        Story.rich().leaves("beside it", x -> x.value(2, 4), 0);
        due("mended", Story.rich().and(x -> x.mend(0, 9)).told().value(0, 9), 11);
    }

    @Sentence(at = "Promise 17", says = "Returns the value")
    static void p17FromTheLeastToTheGreatest() {
        LocalMenders x = new LocalMenders();
        for (int value = 15; value >= 0; value--) {
            x.alter(3, 9, value);
            due("value", x.value(3, 9), value);
        }
    }

    // ---- node

    @Sentence(at = "Promise 18", says = {"`stripe`: a stripe", "UNKNOWN"})
    static void p18Stripe() {
        Story.rich().leaves("the first", x -> x.node(0, 0), 0);
        Story.rich().leaves("the last", x -> x.node(3, 0), 3);
        refusesUnknownStripes("node", (x, stripe) -> x.node(stripe, 0));
    }

    @Sentence(at = "Promise 18", says = {"`cell`: a cell", "UNKNOWN"})
    static void p18Cell() {
        Story.rich().leaves("the first", x -> x.node(1, 0), 1);
        Story.rich().leaves("the last", x -> x.node(1, 9), 0);
        refusesUnknownCells("node", (x, cell) -> x.node(1, cell));
    }

    @Sentence(at = "Promise 18", says = "Returns the node")
    static void p18TheFirstAndTheLastNode() {
        for (int stripe = 0; stripe < 8; stripe++) {
            LocalMenders x = store(3, 5, 8, 3);
            int first = (20 - 3 * stripe % 20) % 20;
            due("the first node", x.node(stripe, first), 0);
            due("the last node", x.node(stripe, (first + 19) % 20), 19);
        }
        Story.rich().leaves("a lost cell", x -> x.node(2, 7), 9);
    }

    // ---- load

    @Sentence(at = "Promise 19", says = {"`node`: a node", "UNKNOWN"})
    static void p19Node() {
        Story.rich().leaves("the first", x -> x.load(0), 0);
        Story.rich().leaves("the last", x -> x.load(9), 0);
        Story.rich().leaves("the last that has one", x -> x.load(7), 1);
        refusesUnknownNodes("load", LocalMenders::load);
        due("the last of twenty", store(3, 5, 1, 0).load(19), 0);
        due("behind it", store(3, 5, 1, 0).load(20), UNKNOWN);
        due("the last of five", store(1, 2, 1, 0).load(4), 0);
        due("behind it", store(1, 2, 1, 0).load(5), UNKNOWN);
    }

    @Sentence(at = "Promise 19", says = "Returns the load of a node: how many cells of it were read since the layout was set.")
    static void p19SinceTheLayoutWasSet() {
        Story set = Story.rich().and(x -> x.setLayout(2, 3, 4, 1));
        loadsAre("the same layout", set.told(), new int[10]);
        loadsAre("one cell mended then", set.losing(0, 0).and(x -> x.mend(0, 0)).told(), 0, 1, 1, 0, 0, 0, 1, 0, 0, 0);
        loadsAre("the layout undone", set.back(1).told(), 0, 2, 2, 1, 1, 1, 1, 1, 0, 0);
        loadsAre("a mending undone", Story.rich().and(x -> x.mend(0, 9)).back(1).told(), 0, 2, 2, 1, 1, 1, 1, 1, 0, 0);
    }

    @Sentence(at = "Promise 19", says = "Returns the load; UNKNOWN.")
    static void p19FromNoneOn() {
        LocalMenders x = store(1, 2, 1, 0);
        for (int load = 0; load < 160; load++) {
            due("load of a node that is read", x.load(1), load);
            x.lose(0, 0);
            x.mend(0, 0);
        }
        due("load of one that is not", x.load(0), 0);
    }

    // ---- lost

    @Sentence(at = "Promise 20", says = {"`stripe`: a stripe", "UNKNOWN"})
    static void p20Stripe() {
        Story.rich().leaves("the first", x -> x.lost(0), 1 << 9);
        Story.rich().leaves("the last", x -> x.lost(3), 0);
        refusesUnknownStripes("lost", LocalMenders::lost);
    }

    @Sentence(at = "Promise 20", says = "Returns the set as bits (bit c for the cell c)")
    static void p20FromTheEmptySetToAllCells() {
        LocalMenders x = store(3, 5, 8, 5);
        due("empty", x.lost(7), 0);
        x.lose(7, 19);
        due("the last cell", x.lost(7), 1 << 19);
        x.lose(7, 0);
        due("and the first", x.lost(7), 1 << 19 | 1);
        x.mend(7, 19);
        due("the first alone", x.lost(7), 1);
        for (int cell = 1; cell < 20; cell++) {
            x.lose(7, cell);
        }
        due("all", x.lost(7), (1 << 20) - 1);
        due("none of the stripe before", x.lost(6), 0);
    }

    // ---- waiting

    @Sentence(at = "Promise 21", says = "`place`: 0 for the first one")
    static void p21TheFirstAndTheLastPlace() {
        Story.rich().leaves("the first", x -> x.waiting(0), 207);
        Story.rich().leaves("the last", x -> x.waiting(2), 9);
    }

    @Sentence(at = "Promise 21", says = "Returns 100 times its stripe plus the cell")
    static void p21TheLeastAndTheGreatest() {
        due("the first cell", Story.fresh().losing(0, 0).told().waiting(0), 0);
        due("the last cell of the first stripe", Story.layout(3, 5, 8, 1).losing(0, 19).told().waiting(0), 19);
        due("the first cell of the last stripe", Story.layout(3, 5, 8, 1).losing(7, 0).told().waiting(0), 700);
        due("the last cell of the last stripe", Story.layout(3, 5, 8, 1).losing(7, 19).told().waiting(0), 719);
    }

    @Sentence(at = "Promise 21", says = "OUT_OF_RANGE if place is negative")
    static void p21ANegativePlace() {
        refusesOutOfRange(Story.rich(), "waiting", LocalMenders::waiting, -1, -2, LEAST);
        refusesOutOfRange(Story.fresh(), "waiting in an empty queue", LocalMenders::waiting, -1, LEAST);
    }

    @Sentence(at = "Promise 21", says = "NONE if there is none")
    static void p21BehindTheLastPlace() {
        Story.rich().refuses("behind the last", x -> x.waiting(3), NONE);
        Story.rich().refuses("far behind it", x -> x.waiting(160), NONE);
        Story.rich().refuses("the greatest number", x -> x.waiting(GREATEST), NONE);
        Story.fresh().refuses("the empty queue", x -> x.waiting(0), NONE);
        Story.rich().and(x -> x.mend(2, 7)).refuses("where one was", x -> x.waiting(2), NONE);
    }

    // ---- failing

    @Sentence(at = "Promise 22", says = {"`stripe`: a stripe", "UNKNOWN"})
    static void p22Stripe() {
        Story.fresh().leaves("the first", x -> x.failing(0), 0);
        Story.rich().leaves("the last", x -> x.failing(3), 1 | 4 | 8);
        refusesUnknownStripes("failing", LocalMenders::failing);
    }

    @Sentence(at = "Promise 22", says = "NOT_POSSIBLE if a cell of the stripe is lost")
    static void p22ALostCell() {
        for (int lost = 0; lost < 10; lost++) {
            Story story = Story.rich().losing(3, lost);
            story.refuses("failing without " + lost, x -> x.failing(3), NOT_POSSIBLE);
            story.leaves("of another stripe", x -> x.failing(1), 0);
        }
        due("mended", Story.rich().losing(3, 9).and(x -> x.mend(3, 9)).told().failing(3), 1 | 4);
    }

    @Sentence(at = "Promise 22", says = "Returns the set as bits: bit k for the local check of the group k, then the bit g for the first global check and the bit g + 1")
    static void p22TheFirstAndTheLastBit() {
        for (int groups = 1; groups <= 4; groups++) {
            LocalMenders x = store(groups, 2, 1, 0);
            due("no check", x.failing(0), 0);
            for (int check = 0; check < groups + 2; check++) {
                x.alter(0, 2 * groups + check, 9);
                due("the check " + check + " of " + groups + " groups", x.failing(0), 1 << check);
                x.alter(0, 2 * groups + check, 0);
            }
            for (int check = 0; check < groups + 2; check++) {
                x.alter(0, 2 * groups + check, 1 + check);
            }
            due("all checks", x.failing(0), (1 << groups + 2) - 1);
        }
    }

    // ---- total

    @Sentence(at = "Promise 23", says = "`what`: 0 for the groups, 1 for the group size, 2 for the stripes, 3 for the shift, 4 for the nodes, 5 for the lost cells")
    static void p23TheLayoutAndTheLostCells() {
        Story rich = Story.rich();
        int[] totals = {2, 3, 4, 1, 10, 3};
        for (int what = 0; what < totals.length; what++) {
            int which = what;
            rich.leaves("total(" + what + ")", x -> x.total(which), totals[what]);
        }
        LocalMenders x = store(3, 5, 8, 0);
        x.loseNode(19);
        int[] others = {3, 5, 8, 0, 20, 8};
        for (int what = 0; what < others.length; what++) {
            due("total(" + what + ")", x.total(what), others[what]);
        }
    }

    @Sentence(at = "Promise 23", says = {"6 for the cells read so far, 7 for the cells mended so far", "8 for those of them that were mended within their group, 9 for the cells lost so far"})
    static void p23TheCountsSoFar() {
        Story rich = Story.rich();
        int[] totals = {9, 2, 1, 5};
        for (int what = 6; what <= 9; what++) {
            int which = what;
            rich.leaves("total(" + what + ")", x -> x.total(which), totals[what - 6]);
        }
        LocalMenders x = rich.and(a -> a.work(50)).and(a -> a.lose(0, 0)).told();
        due("read", x.total(6), 9 + 8 + 3 + 6);
        due("mended", x.total(7), 5);
        due("within their group", x.total(8), 2);
        due("lost", x.total(9), 6);
    }

    @Sentence(at = "Promise 23", says = "10 for the states in the history, 11 for the length of the text")
    static void p23TheHistoryAndTheText() {
        Story.rich().leaves("a full history", x -> x.total(10), 4);
        Story.rich().leaves("some text", x -> x.total(11), 11);
        Story.fresh().leaves("no history", x -> x.total(10), 0);
        Story.fresh().leaves("no text", x -> x.total(11), 0);
        due("one undone", Story.rich().back(1).told().total(10), 3);
        due("cleared", Story.rich().and(LocalMenders::clearText).told().total(11), 0);
    }

    @Sentence(at = "Promise 23", says = "Returns the number; OUT_OF_RANGE.")
    static void p23OutOfRange() {
        refusesOutOfRange(Story.rich(), "total", LocalMenders::total, -1, 12, 13, LEAST, GREATEST);
        refusesOutOfRange(Story.fresh(), "total", LocalMenders::total, -1, 12);
    }
}
