/** Promises 1 to 10, a new object and the changes: for each sentence that names a boundary case a test of its own. */
public final class ChangesSentencesTest extends Sentences {
    public static void main(String[] args) throws IllegalAccessException {
        run(ChangesSentencesTest.class);
    }

    // ---- a new object

    @Sentence(at = "Promise 1", says = "Creates a store of 4 stripes with 2 groups of 3 data cells.")
    static void p01TheLastStripeAndCellOfANewObject() {
        LocalMenders x = new LocalMenders();
        due("the last stripe", x.value(3, 9), 0);
        due("behind the last stripe", x.value(4, 0), UNKNOWN);
        due("behind the last cell", x.value(3, 10), UNKNOWN);
        due("the last data cell", x.write(3, 5, 1), 0);
        due("the first parity", x.write(3, 6, 1), UNKNOWN);
    }

    @Sentence(at = "Promise 1", says = "Creates a store of 4 stripes with 2 groups of 3 data cells.")
    static void p01ANewObjectIsEmpty() {
        LocalMenders x = new LocalMenders();
        int[] totals = {2, 3, 4, 1, 10, 0, 0, 0, 0, 0, 0, 0};
        for (int what = 0; what < totals.length; what++) {
            due("total(" + what + ")", x.total(what), totals[what]);
        }
        queueIs("queue", x);
        loadsAre("loads", x, 0, 0, 0, 0, 0, 0, 0, 0, 0, 0);
        due("history", x.undo(), NONE);
        due("snapshot", x.restore(), NONE);
        due("text", x.perform(), -100);
        due("text", x.clearText(), 0);
        due("busiest", x.busiest(), NONE);
    }

    @Sentence(at = "Promise 1", says = "`LocalMenders()`")
    static void p01TwoObjectsHaveNothingInCommon() {
        LocalMenders x = Story.rich().told();
        LocalMenders y = new LocalMenders();
        due("lost cells", y.total(5), 0);
        due("text", y.total(11), 0);
        due("history", y.undo(), NONE);
        y.setLayout(1, 2, 1, 0);
        due("nodes of the other one", x.total(4), 10);
    }

    // ---- setLayout

    @Sentence(at = "Promise 2", says = "`groups`: 1 to 4")
    static void p02Groups() {
        Story rich = Story.rich();
        rich.changes("one", x -> x.setLayout(1, 3, 4, 1), 6);
        rich.changes("four", x -> x.setLayout(4, 3, 4, 1), 18);
        refusesOutOfRange(rich, "groups", (x, groups) -> x.setLayout(groups, 3, 4, 1), 0, 5, -1, -4, 1 << 16, LEAST, GREATEST);
    }

    @Sentence(at = "Promise 2", says = "`size`: 2 to 6")
    static void p02Size() {
        Story rich = Story.rich();
        rich.changes("two", x -> x.setLayout(1, 2, 4, 1), 5);
        rich.changes("six", x -> x.setLayout(1, 6, 4, 1), 9);
        refusesOutOfRange(rich, "size", (x, size) -> x.setLayout(1, size, 4, 1), 1, 7, 0, -1, 15, LEAST, GREATEST);
    }

    @Sentence(at = "Promise 2", says = "`stripes`: 1 to 8")
    static void p02Stripes() {
        Story rich = Story.rich();
        rich.changes("one", x -> x.setLayout(2, 3, 1, 1), 10);
        rich.changes("eight", x -> x.setLayout(2, 3, 8, 1), 10);
        refusesOutOfRange(rich, "stripes", (x, stripes) -> x.setLayout(2, 3, stripes, 1), 0, 9, -1, LEAST, GREATEST);
    }

    @Sentence(at = "Promise 2", says = "`shift`: 0 to 5")
    static void p02Shift() {
        Story rich = Story.rich();
        rich.changes("none", x -> x.setLayout(2, 3, 4, 0), 10);
        rich.changes("five", x -> x.setLayout(2, 3, 4, 5), 10);
        refusesOutOfRange(rich, "shift", (x, shift) -> x.setLayout(2, 3, 4, shift), -1, 6, LEAST, GREATEST);
    }

    @Sentence(at = "Promise 2", says = "OUT_OF_RANGE (also if groups * size is greater than 15)")
    static void p02TooManyDataCells() {
        Story rich = Story.rich();
        rich.changes("15", x -> x.setLayout(3, 5, 4, 1), 20);
        rich.refuses("16", x -> x.setLayout(4, 4, 4, 1), OUT_OF_RANGE);
        rich.refuses("18", x -> x.setLayout(3, 6, 4, 1), OUT_OF_RANGE);
        rich.refuses("24", x -> x.setLayout(4, 6, 4, 1), OUT_OF_RANGE);
        rich.refuses("a product that wraps around to 0", x -> x.setLayout(1 << 16, 1 << 16, 4, 1), OUT_OF_RANGE);
        rich.refuses("a product of two negative numbers", x -> x.setLayout(-2, -3, 4, 1), OUT_OF_RANGE);
        Story.fresh().refuses("a new object", x -> x.setLayout(4, 4, 4, 1), OUT_OF_RANGE);
    }

    @Sentence(at = "Promise 2", says = "Returns the number of nodes")
    static void p02TheFewestAndTheMostNodes() {
        due("the fewest", new LocalMenders().setLayout(1, 2, 8, 5), 5);
        due("the most", new LocalMenders().setLayout(3, 5, 1, 0), 20);
    }

    @Sentence(at = "Promise 2", says = "Sets the layout; all cells are 0 and there then.")
    static void p02AllCellsAreZeroAndThere() {
        LocalMenders x = Story.layout(3, 5, 8, 5).and(a -> a.write(7, 14, 9)).and(a -> a.alter(0, 19, 3)).losing(7, 0, 19).told();
        due("a smaller one", x.setLayout(1, 2, 8, 1), 5);
        due("the largest again", x.setLayout(3, 5, 8, 5), 20);
        for (int stripe = 0; stripe < 8; stripe++) {
            due("lost", x.lost(stripe), 0);
            cellsAre("zero", x, stripe, new int[20]);
        }
        queueIs("none waits", x);
    }

    @Sentence(at = "Promise 2", says = "The loads of the nodes are 0 then; the other counts go on.")
    static void p02LoadsAndCounts() {
        for (int groups = 1; groups <= 2; groups++) {
            int given = groups;
            LocalMenders x = Story.rich().and(a -> a.setLayout(given, 3, 4, 1)).told();
            loadsAre("loads", x, new int[x.total(4)]);
            due("busiest", x.busiest(), NONE);
            due("lost cells", x.total(5), 0);
            due("read so far", x.total(6), 9);
            due("mended so far", x.total(7), 2);
            due("within their groups", x.total(8), 1);
            due("lost so far", x.total(9), 5);
            due("text", x.total(11), 11);
        }
    }

    @Sentence(at = "Promise 2", says = "This is a change (also if the layout is the same).")
    static void p02TheSameLayout() {
        Story.rich().changes("the same", x -> x.setLayout(2, 3, 4, 1), 10);
        Story.fresh().changes("the same of a new object", x -> x.setLayout(2, 3, 4, 1), 10);
        Story.rich().changes("another one", x -> x.setLayout(3, 5, 8, 5), 20);
    }

    // ---- write

    @Sentence(at = "Promise 3", says = {"`stripe`: a stripe", "UNKNOWN (stripe or cell"})
    static void p03Stripe() {
        Story.rich().changes("the last but one that is whole", x -> x.write(1, 0, 6), 0);
        Story.fresh().changes("the first", x -> x.write(0, 0, 6), 0);
        Story.fresh().changes("the last", x -> x.write(3, 0, 6), 0);
        refusesUnknownStripes("write", (x, stripe) -> x.write(stripe, 0, 6));
    }

    @Sentence(at = "Promise 3", says = {"`cell`: a data cell", "UNKNOWN (stripe or cell"})
    static void p03Cell() {
        Story.rich().changes("the first", x -> x.write(1, 0, 6), 0);
        Story.rich().changes("the last", x -> x.write(1, 5, 6), 0);
        refusesUnknownCells("write", (x, cell) -> x.write(1, cell, 6));
    }

    @Sentence(at = "Promise 3", says = "a parity is none")
    static void p03AParityIsNoDataCell() {
        for (int parity = 6; parity <= 9; parity++) {
            int cell = parity;
            Story.rich().refuses("the parity " + cell, x -> x.write(1, cell, 6), UNKNOWN);
        }
    }

    @Sentence(at = "Promise 3", says = {"`value`: 0 to 15", "OUT_OF_RANGE"})
    static void p03Value() {
        Story.rich().changes("the greatest", x -> x.write(1, 0, 15), 0);
        Story.rich().and(x -> x.write(1, 0, 15)).changes("the least", x -> x.write(1, 0, 0), 15);
        refusesOutOfRange(Story.rich(), "write", (x, value) -> x.write(1, 0, value), -1, 16, LEAST, GREATEST);
    }

    @Sentence(at = "Promise 3", says = "NOT_POSSIBLE if a cell of the stripe is lost")
    static void p03ACellOfTheStripeIsLost() {
        for (int lost = 0; lost < 10; lost++) {
            Story story = Story.fresh().losing(2, lost);
            story.refuses("without " + lost, x -> x.write(2, 3, 6), NOT_POSSIBLE);
            story.changes("the stripe before", x -> x.write(1, 3, 6), 0);
            story.changes("the stripe behind", x -> x.write(3, 3, 6), 0);
        }
        Story.rich().refuses("two are lost", x -> x.write(2, 0, 6), NOT_POSSIBLE);
    }

    @Sentence(at = "Promise 3", says = "NONE if the cell has this value already")
    static void p03TheSameValue() {
        Story written = Story.rich().and(x -> x.write(1, 5, 6));
        written.refuses("written", x -> x.write(1, 5, 6), NONE);
        written.refuses("never written", x -> x.write(1, 4, 0), NONE);
        Story.rich().refuses("changed silently", x -> x.write(3, 1, 5), NONE);
        written.changes("one more", x -> x.write(1, 5, 7), 6);
        written.changes("one less", x -> x.write(1, 5, 5), 6);
        Story.fresh().refuses("a new object", x -> x.write(0, 0, 0), NONE);
    }

    @Sentence(at = "Promise 3", says = "Returns the previous value")
    static void p03ThePreviousValue() {
        LocalMenders x = new LocalMenders();
        due("the least", x.write(0, 5, 15), 0);
        due("the greatest", x.write(0, 5, 3), 15);
        x.alter(0, 5, 8);
        due("one that was changed silently", x.write(0, 5, 1), 8);
    }

    @Sentence(at = "Promise 3", says = "if the cell becomes greater by d (as an exclusive or), the local parity does so by d")
    static void p03TheLocalParityOfTheFirstAndTheLastCellOfAGroup() {
        LocalMenders x = store(3, 5, 1, 0);
        x.write(0, 5, 3);
        x.write(0, 9, 5);
        due("before", x.value(0, 15), 0);
        due("their group", x.value(0, 16), 6);
        due("behind", x.value(0, 17), 0);
        x.write(0, 9, 4);
        due("by 1", x.value(0, 16), 7);
    }

    @Sentence(at = "Promise 3", says = "and the global parities by d times the factor of the cell in their checks")
    static void p03TheGlobalParitiesOfTheFirstAndTheLastCell() {
        LocalMenders x = store(3, 5, 1, 0);
        x.write(0, 0, 15);
        due("15 times 1", x.value(0, 18), 15);
        due("15 times 1", x.value(0, 19), 15);
        x.write(0, 0, 0);
        x.write(0, 14, 15);
        // 15 times 9 is 2^12 * 2^14 = 2^26 = 2^11, which is 14; 15 times 13 is 2^12 * 2^13 = 2^25 = 2^10, which is 7
        due("15 times 9", x.value(0, 18), 14);
        due("15 times 13", x.value(0, 19), 7);
    }

    @Sentence(at = "Promise 3", says = "changes its local parity and both global parities by as much as the checks demand")
    static void p03ChecksThatDidNotHoldDoNotHoldThen() {
        LocalMenders x = new LocalMenders();
        x.alter(0, 6, 15);
        x.alter(0, 9, 1);
        due("write", x.write(0, 1, 8), 0);
        // 2 * 8 is 3, and 4 * 8 is 6
        cellsAre("each parity by as much", x, 0, 0, 8, 0, 0, 0, 0, 15 ^ 8, 0, 3, 1 ^ 6);
        due("failing", x.failing(0), 1 | 8);
        cellsAre("no other stripe", x, 1, 0, 0, 0, 0, 0, 0, 0, 0, 0, 0);
    }

    @Sentence(at = "Promise 3", says = "This is a change.")
    static void p03IsAChange() {
        Story.fresh().changes("a new object", x -> x.write(0, 0, 1), 0);
        Story.rich().changes("with a full history", x -> x.write(3, 1, 1), 5);
    }

    // ---- alter

    @Sentence(at = "Promise 4", says = {"`stripe`: a stripe", "UNKNOWN"})
    static void p04Stripe() {
        Story.fresh().changes("the first", x -> x.alter(0, 0, 6), 0);
        Story.rich().changes("the last", x -> x.alter(3, 0, 6), 0);
        refusesUnknownStripes("alter", (x, stripe) -> x.alter(stripe, 0, 6));
    }

    @Sentence(at = "Promise 4", says = {"`cell`: a cell", "UNKNOWN"})
    static void p04Cell() {
        for (int cell = 0; cell < 10; cell++) {
            int each = cell;
            Story.rich().changes("the cell " + cell, x -> x.alter(1, each, 6), 0);
        }
        refusesUnknownCells("alter", (x, cell) -> x.alter(1, cell, 6));
    }

    @Sentence(at = "Promise 4", says = {"`value`: 0 to 15", "OUT_OF_RANGE"})
    static void p04Value() {
        Story.rich().changes("the greatest", x -> x.alter(3, 1, 15), 5);
        Story.rich().changes("the least", x -> x.alter(3, 1, 0), 5);
        refusesOutOfRange(Story.rich(), "alter", (x, value) -> x.alter(3, 1, value), -1, 16, LEAST, GREATEST);
    }

    @Sentence(at = "Promise 4", says = "NOT_POSSIBLE if the cell is lost")
    static void p04ALostCell() {
        for (int cell = 0; cell < 10; cell++) {
            int lost = cell;
            Story story = Story.fresh().losing(1, lost);
            story.refuses("the lost cell " + lost, x -> x.alter(1, lost, 6), NOT_POSSIBLE);
            story.refuses("with 0, which it had", x -> x.alter(1, lost, 0), NOT_POSSIBLE);
            story.changes("beside it", x -> x.alter(1, (lost + 1) % 10, 6), 0);
        }
    }

    @Sentence(at = "Promise 4", says = "NONE if the cell has this value already")
    static void p04TheSameValue() {
        Story.rich().refuses("changed", x -> x.alter(3, 1, 5), NONE);
        Story.rich().refuses("a parity that was written along", x -> x.alter(0, 8, 8), NONE);
        Story.rich().refuses("beside lost cells", x -> x.alter(2, 0, 0), NONE);
        Story.rich().changes("one less", x -> x.alter(3, 1, 4), 5);
        Story.rich().changes("one more", x -> x.alter(3, 1, 6), 5);
    }

    @Sentence(at = "Promise 4", says = "Returns the previous value")
    static void p04ThePreviousValue() {
        LocalMenders x = new LocalMenders();
        due("the least", x.alter(0, 1, 15), 0);
        due("the greatest", x.alter(0, 1, 8), 15);
        x.write(0, 1, 3);
        due("one that was written", x.alter(0, 1, 0), 3);
        due("a parity that was written along", x.alter(0, 6, 0), 3 ^ 8);
    }

    @Sentence(at = "Promise 4", says = "Changes a cell silently.")
    static void p04NoOtherCellGoesAlong() {
        for (int cell = 0; cell < 10; cell++) {
            LocalMenders x = new LocalMenders();
            x.alter(0, cell, 15);
            int[] cells = new int[10];
            cells[cell] = 15;
            cellsAre("changed " + cell, x, 0, cells);
            cellsAre("the next stripe", x, 1, new int[10]);
        }
    }

    @Sentence(at = "Promise 4", says = "This is a change.")
    static void p04IsAChange() {
        Story.fresh().changes("a new object", y -> y.alter(3, 9, 1), 0);
        Story.rich().changes("with a full history", y -> y.alter(0, 4, 1), 9);
    }

    // ---- lose

    @Sentence(at = "Promise 5", says = {"`stripe`: a stripe", "UNKNOWN"})
    static void p05Stripe() {
        Story.rich().changes("the first", x -> x.lose(0, 0), 4);
        Story.rich().changes("the last", x -> x.lose(3, 0), 4);
        refusesUnknownStripes("lose", (x, stripe) -> x.lose(stripe, 0));
    }

    @Sentence(at = "Promise 5", says = {"`cell`: a cell", "UNKNOWN"})
    static void p05Cell() {
        for (int cell = 0; cell < 10; cell++) {
            int each = cell;
            Story.rich().changes("the cell " + cell, x -> x.lose(1, each), 4);
        }
        refusesUnknownCells("lose", (x, cell) -> x.lose(1, cell));
    }

    @Sentence(at = "Promise 5", says = "NONE if it is lost already")
    static void p05LostAlready() {
        Story.rich().refuses("the first of the queue", x -> x.lose(2, 7), NONE);
        Story.rich().refuses("the last of the queue", x -> x.lose(0, 9), NONE);
        Story.rich().changes("the same cell of the next stripe", x -> x.lose(3, 7), 4);
        due("lost so far", Story.rich().and(x -> x.lose(2, 7)).told().total(9), 5);
    }

    @Sentence(at = "Promise 5", says = "Returns how many cells wait in the queue then")
    static void p05FromOneToAll() {
        LocalMenders x = store(3, 5, 8, 0);
        for (int cell = 0; cell < 160; cell++) {
            due("lose", x.lose(cell % 8, cell / 8), cell + 1);
        }
        due("all", x.lost(7), (1 << 20) - 1);
        due("no other one", x.lose(7, 19), NONE);
        due("lost so far", x.total(9), 160);
    }

    @Sentence(at = "Promise 5", says = {"Loses a cell.", "This is a change."})
    static void p05IsAChange() {
        Story.fresh().changes("a new object", x -> x.lose(3, 9), 1);
        Story.rich().changes("with a full history", x -> x.lose(3, 1), 4);
    }

    // ---- loseNode

    @Sentence(at = "Promise 6", says = {"`node`: a node", "UNKNOWN"})
    static void p06Node() {
        Story.rich().changes("the first", x -> x.loseNode(0), 4);
        Story.rich().changes("the last", x -> x.loseNode(8), 4);
        refusesUnknownNodes("loseNode", LocalMenders::loseNode);
        due("the last of twenty", store(3, 5, 8, 5).loseNode(19), 8);
        due("behind it", store(3, 5, 8, 5).loseNode(20), UNKNOWN);
        due("the last of five", store(1, 2, 8, 5).loseNode(4), 8);
        due("behind it", store(1, 2, 8, 5).loseNode(5), UNKNOWN);
    }

    @Sentence(at = "Promise 6", says = "Loses all cells of a node, in the order of the stripes.")
    static void p06TheOrderWhereTheNodesWrapAround() {
        LocalMenders x = new LocalMenders();
        due("the first node", x.loseNode(0), 4);
        queueIs("the first node", x, 0, 109, 208, 307);
        due("the last node", x.loseNode(9), 4);
        queueIs("and the last one", x, 0, 109, 208, 307, 9, 108, 207, 306);
        LocalMenders y = store(1, 2, 8, 4);
        y.loseNode(0);
        queueIs("more than once around", y, 0, 101, 202, 303, 404, 500, 601, 702);
    }

    @Sentence(at = "Promise 6", says = "Returns how many cells are lost by this")
    static void p06SomeAreLostAlready() {
        // node 9: 9 of the stripe 0, which is lost, 8 of the stripe 1, 7 of the stripe 2, which is lost, 6 of the stripe 3
        Story.rich().changes("two of four", x -> x.loseNode(9), 2);
        queueIs("those that were lost stay where they are", Story.rich().and(x -> x.loseNode(9)).told(), 207, 203, 9, 108, 306);
        due("lost so far", Story.rich().and(x -> x.loseNode(9)).told().total(9), 7);
        Story.layout(2, 3, 1, 1).changes("a single stripe", x -> x.loseNode(9), 1);
    }

    @Sentence(at = "Promise 6", says = "NONE if none is")
    static void p06AllAreLostAlready() {
        Story.rich().and(x -> x.loseNode(9)).refuses("all four", x -> x.loseNode(9), NONE);
        Story.rich().losing(1, 8).changes("all but one", x -> x.loseNode(9), 1);
        Story.rich().losing(1, 8).losing(3, 6).refuses("one after the other", x -> x.loseNode(9), NONE);
    }

    @Sentence(at = "Promise 6", says = "(The node can be used again at once.)")
    static void p06TheNodeCanBeUsedAtOnce() {
        LocalMenders x = new LocalMenders();
        x.loseNode(0);
        due("its cell is mended on it", x.mend(0, 0), 3);
        due("value", x.value(0, 0), 0);
        due("node", x.node(0, 0), 0);
        due("a cell on it is read", x.lose(0, 1), 4);
        due("mend", x.mend(0, 1), 3);
        due("load", x.load(0), 1);
        due("and is lost again", x.loseNode(0), 1);
    }

    @Sentence(at = "Promise 6", says = "This is a change.")
    static void p06IsOneChange() {
        Story.fresh().changes("a new object", x -> x.loseNode(9), 4);
        Story.rich().changes("with a full history", x -> x.loseNode(6), 4);
    }

    // ---- mend

    @Sentence(at = "Promise 7", says = {"`stripe`: a stripe", "UNKNOWN"})
    static void p07Stripe() {
        Story.rich().changes("the first", x -> x.mend(0, 9), 6);
        Story.rich().losing(3, 9).changes("the last", x -> x.mend(3, 9), 6);
        refusesUnknownStripes("mend", (x, stripe) -> x.mend(stripe, 9));
    }

    @Sentence(at = "Promise 7", says = {"`cell`: a cell", "UNKNOWN"})
    static void p07Cell() {
        for (int cell = 0; cell < 10; cell++) {
            int each = cell;
            Story.rich().losing(1, each).changes("the cell " + cell, x -> x.mend(1, each), each < 8 ? 3 : 6);
        }
        refusesUnknownCells("mend", (x, cell) -> x.mend(1, cell));
    }

    @Sentence(at = "Promise 7", says = "NOT_POSSIBLE if it is lost and cannot be mended")
    static void p07CannotBeMended() {
        Story four = Story.rich().losing(1, 0, 1, 2, 6);
        for (int cell : new int[] {0, 1, 2, 6}) {
            four.refuses("the cell " + cell, x -> x.mend(1, cell), NOT_POSSIBLE);
        }
        Story.rich().losing(1, 0, 1, 2).changes("one less", x -> x.mend(1, 0), 7);
        four.refuses("there and not lost", x -> x.mend(1, 3), NONE);
        Story all = Story.fresh().losing(0, 0, 1, 2, 3, 4, 5, 6, 7, 8, 9);
        all.refuses("with no cell there", x -> x.mend(0, 0), NOT_POSSIBLE);
        all.refuses("with no cell there", x -> x.mend(0, 9), NOT_POSSIBLE);
        Story.fresh().and(x -> x.alter(3, 9, 1)).losing(3, 0, 1).refuses("no choice of values", x -> x.mend(3, 1), NOT_POSSIBLE);
    }

    @Sentence(at = "Promise 7", says = "NONE if it is not lost")
    static void p07NotLost() {
        Story.rich().refuses("never", x -> x.mend(3, 9), NONE);
        Story.rich().refuses("not any more", x -> x.mend(1, 2), NONE);
        Story.rich().refuses("beside lost ones", x -> x.mend(2, 4), NONE);
        Story.fresh().refuses("a new object", x -> x.mend(0, 0), NONE);
    }

    @Sentence(at = "Promise 7", says = "Returns how many cells are read")
    static void p07FromTheFewestToTheMost() {
        due("two", Story.layout(1, 2, 1, 0).losing(0, 0).told().mend(0, 0), 2);
        due("eighteen", Story.layout(3, 5, 1, 0).losing(0, 0, 1).told().mend(0, 0), 18);
        due("six within a group", Story.layout(1, 6, 1, 0).losing(0, 6).told().mend(0, 6), 6);
        due("fifteen data cells", Story.layout(3, 5, 1, 0).losing(0, 19).told().mend(0, 19), 15);
    }

    @Sentence(at = "Promise 7", says = "This is a change.")
    static void p07IsAChange() {
        Story.rich().changes("with a full history", x -> x.mend(2, 3), 8);
        Story.fresh().losing(0, 0).changes("with one state", x -> x.mend(0, 0), 3);
    }

    @Sentence(at = "Promise 7", says = "Mends a cell.")
    static void p07EachWayIsCounted() {
        LocalMenders x = Story.rich().told();
        x.mend(2, 3);
        due("mended", x.total(7), 3);
        due("from the stripe", x.total(8), 1);
        x.mend(2, 7);
        due("mended", x.total(7), 4);
        due("within its group", x.total(8), 2);
        x.mend(0, 9);
        due("mended", x.total(7), 5);
        due("from the data", x.total(8), 2);
        due("lost so far", x.total(9), 5);
        queueIs("all are mended", x);
        due("value", x.value(0, 9), 11);
    }

    // ---- mendNode

    @Sentence(at = "Promise 8", says = {"`node`: a node", "UNKNOWN"})
    static void p08Node() {
        Story.fresh().and(x -> x.loseNode(0)).changes("the first", x -> x.mendNode(0), 3 + 6 + 6 + 3);
        Story.rich().changes("the last", x -> x.mendNode(9), 6 + 8);
        refusesUnknownNodes("mendNode", LocalMenders::mendNode);
        due("behind the last of five", Story.layout(1, 2, 1, 0).losing(0, 0).told().mendNode(5), UNKNOWN);
    }

    @Sentence(at = "Promise 8", says = "Mends all lost cells of a node, in the order of the stripes")
    static void p08TheCellsOfTheNodeAlone() {
        LocalMenders x = Story.rich().told();
        // node 9: 9 of the stripe 0 and 7 of the stripe 2
        x.mendNode(9);
        queueIs("the other one", x, 203);
        due("mended", x.total(7), 4);
        due("within their groups", x.total(8), 1);
        loadsAre("loads", x, 2, 4, 4, 3, 3, 2, 2, 2, 1, 0);
    }

    @Sentence(at = "Promise 8", says = "all of them, or none if one of them cannot be mended when its turn comes")
    static void p08NoneIfTheLastOneCannotBeMended() {
        // node 5 has the cells 5, 4, 3 and 2 of the stripes
        Story last = Story.fresh().and(x -> x.write(0, 5, 9)).and(x -> x.loseNode(5)).losing(3, 0, 1, 6);
        last.refuses("the last one", x -> x.mendNode(5), NOT_POSSIBLE);
        Story first = Story.fresh().and(x -> x.loseNode(5)).losing(0, 3, 4, 7);
        first.refuses("the first one", x -> x.mendNode(5), NOT_POSSIBLE);
        Story one = Story.rich().losing(2, 4, 5);
        one.refuses("7 of the stripe 2", x -> x.mendNode(9), NOT_POSSIBLE);
        one.changes("9 of the stripe 0 alone", x -> x.mend(0, 9), 6);
    }

    @Sentence(at = "Promise 8", says = "all of them, or none if one of them cannot be mended when its turn comes")
    static void p08AnotherNodesCellsMayStayLost() {
        Story story = Story.fresh().losing(1, 0, 1, 2, 6).losing(0, 9);
        story.changes("the node 9", x -> x.mendNode(9), 6);
        story.refuses("the node 1", x -> x.mendNode(1), NOT_POSSIBLE);
    }

    @Sentence(at = "Promise 8", says = "NOT_POSSIBLE if one of them cannot be mended")
    static void p08NotPossible() {
        Story.fresh().losing(0, 0, 1, 2, 6).refuses("the only lost one", x -> x.mendNode(0), NOT_POSSIBLE);
        Story.fresh().losing(0, 0, 1, 2).changes("one that just can", x -> x.mendNode(0), 7);
    }

    @Sentence(at = "Promise 8", says = "NONE if no cell of the node is lost")
    static void p08NoneIsLost() {
        Story.rich().refuses("a node without lost cells", x -> x.mendNode(0), NONE);
        Story.rich().and(x -> x.mendNode(9)).refuses("mended already", x -> x.mendNode(9), NONE);
        Story.fresh().refuses("a new object", x -> x.mendNode(9), NONE);
    }

    @Sentence(at = "Promise 8", says = "Returns how many cells are read")
    static void p08OneOfItsCellsAndAllOfThem() {
        due("one", Story.fresh().losing(3, 6).told().mendNode(9), 3);
        due("eight", Story.layout(3, 5, 8, 1).and(x -> x.loseNode(0)).told().mendNode(0), 5 + 15 + 15 + 5 * 5);
    }

    @Sentence(at = "Promise 8", says = "This is a change.")
    static void p08IsOneChange() {
        Story.rich().changes("with a full history", x -> x.mendNode(9), 14);
        Story.fresh().and(x -> x.loseNode(3)).changes("with one state", x -> x.mendNode(3), 3 * 4);
    }

    // ---- work

    @Sentence(at = "Promise 9", says = {"`steps`: 1 to 50", "OUT_OF_RANGE"})
    static void p09Steps() {
        Story.rich().changes("one", x -> x.work(1), 1);
        Story.rich().changes("fifty", x -> x.work(50), 3);
        refusesOutOfRange(Story.rich(), "work", LocalMenders::work, 0, 51, -1, LEAST, GREATEST);
    }

    @Sentence(at = "Promise 9", says = "how often, but not when the queue is empty")
    static void p09FiftyTimesAndNotOnceMore() {
        // 49 cells that cannot be mended stand before one that can
        Story story = Story.layout(1, 4, 8, 0);
        for (int stripe = 0; stripe < 7; stripe++) {
            story = story.losing(stripe, 0, 1, 2, 3, 4, 5, 6);
        }
        story = story.losing(7, 0);
        due("49 times", story.told().work(49), 0);
        due("50 times", story.told().work(50), 1);
        LocalMenders x = Story.fresh().losing(0, 0, 1, 2, 6).told();
        x.work(50);
        queueIs("fifty turns of four", x, 2, 6, 0, 1);
    }

    @Sentence(at = "Promise 9", says = "how often, but not when the queue is empty")
    static void p09TheQueueEndsBeforeTheSteps() {
        LocalMenders x = Story.rich().told();
        due("two of three", x.work(2), 2);
        queueIs("one is left", x, 9);
        due("the last one", x.work(50), 1);
        queueIs("none is left", x);
        due("read so far", x.total(6), 9 + 8 + 3 + 6);
        due("mended so far", x.total(7), 5);
    }

    @Sentence(at = "Promise 9", says = "NONE if the queue is empty")
    static void p09TheEmptyQueue() {
        Story.fresh().refuses("a new object", x -> x.work(1), NONE);
        Story.fresh().refuses("a new object", x -> x.work(50), NONE);
        Story.rich().and(x -> x.work(3)).refuses("worked off", x -> x.work(1), NONE);
        Story.rich().and(x -> x.setLayout(2, 3, 4, 1)).refuses("a new layout", x -> x.work(1), NONE);
    }

    @Sentence(at = "Promise 9", says = "each time the first cell of the queue is mended, or, if it cannot be mended, goes to the end of the queue")
    static void p09TheFirstOneGoesToTheEnd() {
        Story story = Story.fresh().losing(0, 6, 2, 1, 0).losing(3, 8);
        queueIs("once", story.and(x -> x.work(1)).told(), 2, 1, 0, 308, 6);
        queueIs("four times", story.and(x -> x.work(4)).told(), 308, 6, 2, 1, 0);
        queueIs("five times", story.and(x -> x.work(5)).told(), 6, 2, 1, 0);
        queueIs("six times", story.and(x -> x.work(6)).told(), 2, 1, 0, 6);
        LocalMenders x = Story.fresh().and(a -> a.alter(0, 5, 1)).losing(0, 1, 0).losing(0, 4).told();
        due("three changed or lost", x.work(2), 0);
        queueIs("they change places", x, 4, 1, 0);
        due("one can be mended, wrongly", x.work(1), 1);
        queueIs("that one is gone", x, 1, 0);
    }

    @Sentence(at = "Promise 9", says = "if it cannot be mended, goes to the end of the queue")
    static void p09TheFullQueue() {
        LocalMenders x = store(3, 5, 8, 0);
        for (int node = 0; node < 20; node++) {
            x.loseNode(node);
        }
        due("once", x.work(1), 0);
        due("the second one is first", x.waiting(0), 100);
        due("the first one is last", x.waiting(159), 0);
        due("fifty times", x.work(50), 0);
        due("the 52nd is first", x.waiting(0), 306);
        due("the 51st is last", x.waiting(159), 206);
        due("none is mended", x.total(5), 160);
        due("nor lost", x.total(9), 160);
    }

    @Sentence(at = "Promise 9", says = "This is a change (also if none is mended).")
    static void p09IsAChangeIfNoneIsMended() {
        Story.rich().losing(1, 0, 1, 2, 6).and(x -> x.mend(2, 7)).and(x -> x.mend(2, 3)).and(x -> x.mend(0, 9)).changes("none of four", x -> x.work(1), 0);
        Story.fresh().losing(0, 0, 1, 2, 6).changes("back to the same order", x -> x.work(4), 0);
        Story.fresh().losing(0, 0, 1, 2, 6).changes("fifty times", x -> x.work(50), 0);
        Story.rich().changes("all of three", x -> x.work(3), 3);
    }

    @Sentence(at = "Promise 9", says = "Returns how many cells are mended")
    static void p09TheMostThatCanBeMended() {
        Story story = Story.layout(4, 2, 8, 1);
        for (int stripe = 0; stripe < 8; stripe++) {
            story = story.losing(stripe, 0, 2, 4, 6, 12, 13);
        }
        due("48 cells", story.told().work(48), 48);
        due("47 steps", story.told().work(47), 47);
        due("one is left", story.and(x -> x.work(47)).told().total(5), 1);
        due("two steps less", story.and(x -> x.work(47)).told().work(50), 1);
    }

    // ---- scrub

    @Sentence(at = "Promise 10", says = "NONE if none is")
    static void p10NothingToChange() {
        Story.fresh().refuses("a new object", LocalMenders::scrub, NONE);
        Story.rich().and(LocalMenders::scrub).refuses("scrubbed", LocalMenders::scrub, NONE);
        Story.fresh().and(x -> x.alter(0, 0, 1)).and(x -> x.alter(0, 1, 1)).refuses("two changed cells", LocalMenders::scrub, NONE);
        Story.fresh().and(x -> x.alter(0, 0, 1)).losing(0, 9).refuses("a lost cell", LocalMenders::scrub, NONE);
    }

    @Sentence(at = "Promise 10", says = "Scrubs all stripes, in their order: if a stripe has a culprit, this cell is changed")
    static void p10FromTheFirstToTheLastStripe() {
        Story story = Story.layout(3, 5, 8, 5);
        for (int stripe = 0; stripe < 8; stripe++) {
            int each = stripe;
            story = story.and(x -> x.write(each, 14 - each, 6)).and(x -> x.alter(each, 19 - each, 15));
        }
        LocalMenders x = story.told();
        due("all eight", x.scrub(), 8);
        for (int stripe = 0; stripe < 8; stripe++) {
            due("failing", x.failing(stripe), 0);
            due("the data", x.value(stripe, 14 - stripe), 6);
        }
        due("none is left", x.scrub(), NONE);
        due("the last one alone", Story.layout(3, 5, 8, 5).and(a -> a.alter(7, 19, 1)).told().scrub(), 1);
        due("the first one alone", Story.layout(3, 5, 8, 5).and(a -> a.alter(0, 0, 1)).told().scrub(), 1);
    }

    @Sentence(at = "Promise 10", says = "to the value that makes the stripe consistent")
    static void p10EachValueOfTheFirstAndTheLastCell() {
        for (int cell = 0; cell < 10; cell++) {
            LocalMenders x = new LocalMenders();
            x.write(0, 0, 15);
            x.write(0, 5, 6);
            int right = x.value(0, cell);
            for (int value = 0; value < 16; value++) {
                x.alter(0, cell, value);
                due("scrub", x.scrub(), value == right ? NONE : 1);
                due("value", x.value(0, cell), right);
            }
        }
    }

    @Sentence(at = "Promise 10", says = "if a stripe has a culprit")
    static void p10StripesWithoutACulpritStay() {
        LocalMenders x = new LocalMenders();
        x.alter(0, 0, 1);
        x.alter(1, 0, 1);
        x.alter(1, 1, 1);
        x.alter(2, 0, 1);
        x.lose(2, 9);
        x.alter(3, 0, 1);
        due("the first and the last", x.scrub(), 2);
        due("two changed cells", x.value(1, 0), 1);
        due("two changed cells", x.value(1, 1), 1);
        due("a lost cell", x.value(2, 0), 1);
        due("it stays lost", x.value(2, 9), NONE);
    }

    @Sentence(at = "Promise 10", says = "Returns how many cells are changed")
    static void p10FromOneStripeToAll() {
        Story story = Story.layout(2, 3, 8, 1);
        for (int stripe = 7; stripe >= 0; stripe--) {
            int each = stripe;
            story = story.and(x -> x.alter(each, each, 1));
            due("from the stripe " + stripe + " on", story.told().scrub(), 8 - stripe);
        }
    }

    @Sentence(at = "Promise 10", says = "This is a change.")
    static void p10IsOneChange() {
        Story.rich().changes("with a full history", LocalMenders::scrub, 1);
        Story.fresh().and(x -> x.alter(0, 0, 1)).and(x -> x.alter(3, 9, 1)).changes("two stripes", LocalMenders::scrub, 2);
    }

    @Sentence(at = "Promise 10", says = "(No reads are counted.)")
    static void p10NothingIsReadNorMended() {
        LocalMenders x = Story.fresh().and(a -> a.alter(0, 0, 1)).and(LocalMenders::scrub).told();
        due("read", x.total(6), 0);
        due("mended", x.total(7), 0);
        due("busiest", x.busiest(), NONE);
        queueIs("none waits", x);
    }
}
