/** The document's Terms, but for texts, history and errors: for each sentence that names a boundary case a test of its own. */
public final class TermsSentencesTest extends Sentences {
    public static void main(String[] args) throws IllegalAccessException {
        run(TermsSentencesTest.class);
    }

    // ---- the field

    @Sentence(at = "THE FIELD", says = "Values are 0 to 15.")
    static void valuesAre0To15() {
        Story rich = Story.rich();
        rich.changes("alter to 15", x -> x.alter(1, 0, 15), 0);
        rich.and(x -> x.alter(1, 0, 15)).changes("alter back to 0", x -> x.alter(1, 0, 0), 15);
        rich.changes("write of 15", x -> x.write(1, 0, 15), 0);
        rich.and(x -> x.write(1, 0, 15)).changes("write back to 0", x -> x.write(1, 0, 0), 15);
        refusesOutOfRange(rich, "alter", (x, value) -> x.alter(1, 0, value), -1, 16, 31, LEAST, GREATEST);
        refusesOutOfRange(rich, "write", (x, value) -> x.write(1, 0, value), -1, 16, 31, LEAST, GREATEST);
    }

    @Sentence(at = "THE FIELD", says = "To add two values means the exclusive or of their bits.")
    static void addingCarriesNothing() {
        LocalMenders x = new LocalMenders();
        x.write(0, 0, 15);
        x.write(0, 1, 15);
        due("15 and 15", x.value(0, 6), 0);
        x.write(0, 2, 9);
        due("and 9", x.value(0, 6), 9);
        x.write(0, 1, 3);
        due("15 and 3 and 9", x.value(0, 6), 5);
        x.lose(0, 1);
        due("15 and 9 and 5", x.mended(0, 1), 3);
    }

    @Sentence(at = "THE FIELD", says = "take the remainder by x^4 + x + 1")
    static void productsBelowAndFromTheFourthPower() {
        // what the cell 1 has is multiplied by 2 and by 4
        int[] twice = {0, 2, 4, 6, 8, 10, 12, 14, 3, 1, 7, 5, 11, 9, 15, 13};
        int[] fourTimes = {0, 4, 8, 12, 3, 7, 11, 15, 6, 2, 14, 10, 5, 1, 13, 9};
        LocalMenders x = new LocalMenders();
        for (int value = 1; value < 16; value++) {
            due("write", x.write(0, 1, value), value - 1);
            due("2 * " + value, x.value(0, 8), twice[value]);
            due("4 * " + value, x.value(0, 9), fourTimes[value]);
        }
    }

    @Sentence(at = "THE FIELD", says = "from 2^0 on are 1, 2, 4, 8, 3, 6, 12, 11, 5, 10, 7, 14, 15, 13, 9")
    static void thePowersFromTheFirstToTheLast() {
        int[] powers = {1, 2, 4, 8, 3, 6, 12, 11, 5, 10, 7, 14, 15, 13, 9};
        LocalMenders x = store(3, 5, 1, 0);
        for (int cell = 0; cell < 15; cell++) {
            x.write(0, cell, 1);
            due("2^" + cell, x.value(0, 18), powers[cell]);
            x.write(0, cell, 0);
        }
    }

    @Sentence(at = "THE FIELD", says = "and 2^15 is 1 again")
    static void thePowersWrapAroundAt15() {
        int[] powers = {1, 4, 3, 12, 5, 7, 15, 9, 2, 8, 6, 11, 10, 14, 13};
        LocalMenders x = store(3, 5, 1, 0);
        for (int cell = 0; cell < 15; cell++) {
            x.write(0, cell, 1);
            due("2^" + 2 * cell, x.value(0, 19), powers[cell]);
            x.write(0, cell, 0);
        }
    }

    // ---- stripes

    @Sentence(at = "STRIPES", says = "a number of groups g (1 to 4)")
    static void oneToFourGroups() {
        for (int groups = 1; groups <= 4; groups++) {
            LocalMenders x = store(groups, 3, 2, 1);
            due("groups", x.total(0), groups);
        }
        refusesOutOfRange(Story.rich(), "groups", (x, groups) -> x.setLayout(groups, 2, 1, 0), 0, 5, -1, LEAST, GREATEST);
    }

    @Sentence(at = "STRIPES", says = "a group size s (2 to 6")
    static void groupsOfTwoToSix() {
        for (int size = 2; size <= 6; size++) {
            LocalMenders x = store(2, size, 2, 1);
            due("size", x.total(1), size);
        }
        refusesOutOfRange(Story.rich(), "size", (x, size) -> x.setLayout(1, size, 1, 0), 1, 7, 0, -1, LEAST, GREATEST);
    }

    @Sentence(at = "STRIPES", says = "and g * s is at most 15")
    static void atMost15DataCells() {
        Story rich = Story.rich();
        rich.changes("15", x -> x.setLayout(3, 5, 1, 0), 20);
        rich.changes("12", x -> x.setLayout(4, 3, 1, 0), 18);
        rich.changes("12", x -> x.setLayout(2, 6, 1, 0), 16);
        rich.refuses("16", x -> x.setLayout(4, 4, 1, 0), OUT_OF_RANGE);
        rich.refuses("18", x -> x.setLayout(3, 6, 1, 0), OUT_OF_RANGE);
        rich.refuses("20", x -> x.setLayout(4, 5, 1, 0), OUT_OF_RANGE);
        rich.refuses("24", x -> x.setLayout(4, 6, 1, 0), OUT_OF_RANGE);
    }

    @Sentence(at = "STRIPES", says = "a number of stripes (1 to 8)")
    static void oneToEightStripes() {
        for (int stripes = 1; stripes <= 8; stripes++) {
            LocalMenders x = store(2, 3, stripes, 1);
            due("stripes", x.total(2), stripes);
            due("the last one", x.value(stripes - 1, 0), 0);
            due("behind it", x.value(stripes, 0), UNKNOWN);
        }
        refusesOutOfRange(Story.rich(), "stripes", (x, stripes) -> x.setLayout(1, 2, stripes, 0), 0, 9, -1, LEAST, GREATEST);
    }

    @Sentence(at = "STRIPES", says = "a shift (0 to 5)")
    static void shiftsFrom0To5() {
        for (int shift = 0; shift <= 5; shift++) {
            LocalMenders x = store(2, 3, 2, shift);
            due("shift", x.total(3), shift);
            due("cell 0 of the stripe 1", x.node(1, 0), shift);
        }
        refusesOutOfRange(Story.rich(), "shift", (x, shift) -> x.setLayout(1, 2, 1, shift), -1, 6, LEAST, GREATEST);
    }

    @Sentence(at = "STRIPES", says = "At first g is 2, s is 3, there are 4 stripes, and the shift is 1.")
    static void theLayoutAtFirst() {
        LocalMenders x = new LocalMenders();
        due("groups", x.total(0), 2);
        due("size", x.total(1), 3);
        due("stripes", x.total(2), 4);
        due("shift", x.total(3), 1);
        due("nodes", x.total(4), 10);
    }

    @Sentence(at = "STRIPES", says = "Each stripe has g * s + g + 2 cells, numbered from 0")
    static void theFirstAndTheLastCellOfEachLayout() {
        for (int groups = 1; groups <= 4; groups++) {
            for (int size = 2; size <= 6 && groups * size <= 15; size++) {
                LocalMenders x = store(groups, size, 8, 5);
                int cells = groups * size + groups + 2;
                for (int stripe = 0; stripe < 8; stripe += 7) {
                    due("before the first cell", x.value(stripe, -1), UNKNOWN);
                    due("the first cell", x.value(stripe, 0), 0);
                    due("the last cell", x.value(stripe, cells - 1), 0);
                    due("behind the last cell", x.value(stripe, cells), UNKNOWN);
                }
                due("set of all", x.survives((1 << cells) - 1), 0);
                due("set with one more", x.survives(1 << cells), OUT_OF_RANGE);
            }
        }
    }

    @Sentence(at = "STRIPES", says = "first the data cells 0 to g * s - 1")
    static void theLastDataCellAndTheFirstParity() {
        for (int groups = 1; groups <= 4; groups++) {
            for (int size = 2; size <= 6 && groups * size <= 15; size++) {
                LocalMenders x = store(groups, size, 1, 0);
                due("the first data cell", x.write(0, 0, 7), 0);
                due("the last data cell", x.write(0, groups * size - 1, 7), 0);
                due("the first parity", x.write(0, groups * size, 8), UNKNOWN);
            }
        }
    }

    @Sentence(at = "STRIPES", says = "where the data cell i belongs to the group i / s (rounded down)")
    static void theFirstAndTheLastCellOfEachGroup() {
        for (int groups = 1; groups <= 4; groups++) {
            for (int size = 2; size <= 6 && groups * size <= 15; size++) {
                LocalMenders x = store(groups, size, 1, 0);
                for (int group = 0; group < groups; group++) {
                    for (int cell : new int[] {group * size, group * size + size - 1}) {
                        x.write(0, cell, 6);
                        for (int other = 0; other < groups; other++) {
                            due("local parity " + other + " with the cell " + cell, x.value(0, groups * size + other), other == group ? 6 : 0);
                        }
                        x.write(0, cell, 0);
                    }
                }
            }
        }
    }

    @Sentence(at = "STRIPES", says = {"then the local parities, that of the group k being the cell g * s + k", "then the two global parities"})
    static void theFirstAndTheLastParities() {
        LocalMenders x = store(4, 3, 1, 0);
        x.write(0, 0, 1);
        x.write(0, 11, 2);
        // 2^11 is 14 and 2^22 is 2^7, which is 11; twice that is 15 and 5
        cellsAre("the groups 0 and 3", x, 0, 1, 0, 0, 0, 0, 0, 0, 0, 0, 0, 0, 2, 1, 0, 0, 2, 1 ^ 15, 1 ^ 5);
        LocalMenders y = store(1, 2, 1, 0);
        y.write(0, 1, 8);
        // 2 * 8 is 3, 4 * 8 is 6
        cellsAre("the only group", y, 0, 0, 8, 8, 3, 6);
    }

    @Sentence(at = "STRIPES", says = "There is one node for each cell of a stripe, so there are as many nodes as cells.")
    static void theFirstAndTheLastNode() {
        for (int groups = 1; groups <= 4; groups++) {
            for (int size = 2; size <= 6 && groups * size <= 15; size++) {
                LocalMenders x = store(groups, size, 2, 3);
                int nodes = groups * size + groups + 2;
                due("nodes", x.total(4), nodes);
                due("before the first node", x.load(-1), UNKNOWN);
                due("the first node", x.load(0), 0);
                due("the last node", x.load(nodes - 1), 0);
                due("behind the last node", x.load(nodes), UNKNOWN);
                due("the cells of the last node", x.loseNode(nodes - 1), 2);
                due("behind the last node", x.loseNode(nodes), UNKNOWN);
            }
        }
    }

    @Sentence(at = "STRIPES", says = "The cell c of the stripe t is on the node (c + t * shift) modulo the number of nodes.")
    static void theLastNodeIsFollowedByTheFirst() {
        LocalMenders x = new LocalMenders();
        due("the last cell of the stripe 0", x.node(0, 9), 9);
        due("the last cell of the stripe 1", x.node(1, 9), 0);
        due("the cell before it", x.node(1, 8), 9);
        due("the last cell of the stripe 3", x.node(3, 9), 2);
        due("the last one without a turn", x.node(3, 6), 9);
        due("the first one with a turn", x.node(3, 7), 0);
    }

    @Sentence(at = "STRIPES", says = "The cell c of the stripe t is on the node (c + t * shift) modulo the number of nodes.")
    static void nodesWrapAroundMoreThanOnce() {
        LocalMenders x = store(1, 2, 8, 5);
        for (int cell = 0; cell < 5; cell++) {
            due("35 more", x.node(7, cell), cell);
        }
        LocalMenders y = store(1, 2, 8, 4);
        due("0 + 28", y.node(7, 0), 3);
        due("1 + 28", y.node(7, 1), 4);
        due("2 + 28", y.node(7, 2), 0);
        due("4 + 28", y.node(7, 4), 2);
        LocalMenders z = store(3, 5, 8, 5);
        due("19 + 35", z.node(7, 19), 14);
        due("4 + 35", z.node(7, 4), 19);
        due("5 + 35", z.node(7, 5), 0);
    }

    @Sentence(at = "STRIPES", says = "The cell c of the stripe t is on the node (c + t * shift) modulo the number of nodes.")
    static void withoutAShiftNoNodeTurns() {
        LocalMenders x = store(3, 5, 8, 0);
        due("the first cell", x.node(7, 0), 0);
        due("the last cell", x.node(7, 19), 19);
    }

    @Sentence(at = "STRIPES", says = "A stripe is subject to g + 2 checks.")
    static void theFirstAndTheLastCheck() {
        LocalMenders x = store(1, 2, 1, 0);
        x.alter(0, 0, 1);
        due("all checks of one group", x.failing(0), 0b111);
        LocalMenders y = store(4, 2, 1, 0);
        for (int cell = 0; cell < 14; cell++) {
            y.alter(0, cell, cell < 8 && cell % 2 == 1 ? 0 : cell + 1);
        }
        due("all checks of four groups", y.failing(0), 0b111111);
    }

    @Sentence(at = "STRIPES", says = "The local check of the group k: the sum of the data cells of the group and its local parity is 0.")
    static void theLocalCheckEndsWithItsGroup() {
        LocalMenders x = new LocalMenders();
        x.alter(0, 2, 3);
        due("the last cell of the group 0", x.failing(0) & 3, 1);
        x.alter(0, 3, 3);
        due("the first cell of the group 1", x.failing(0) & 3, 3);
        x.alter(0, 7, 3);
        due("its local parity", x.failing(0) & 3, 1);
        x.alter(0, 0, 3);
        due("the same again in the group 0", x.failing(0) & 3, 0);
    }

    @Sentence(at = "STRIPES", says = "The first global check: the sum, over all data cells i, of 2^i times the cell i, and the first global parity, is 0.")
    static void theFirstGlobalCheckFromTheFirstToTheLastDataCell() {
        globalCheck(0, new int[] {1, 2, 4, 8, 3, 6, 12, 11, 5, 10, 7, 14, 15, 13, 9});
    }

    @Sentence(at = "STRIPES", says = "The second global check: the same with 2^(2 * i) and the second global parity.")
    static void theSecondGlobalCheckFromTheFirstToTheLastDataCell() {
        globalCheck(1, new int[] {1, 4, 3, 12, 5, 7, 15, 9, 2, 8, 6, 11, 10, 14, 13});
    }

    /** Each data cell is changed to 1, and the global parity to its factor. */
    private static void globalCheck(int number, int[] factors) {
        LocalMenders x = store(3, 5, 1, 0);
        int bit = 8 << number;
        for (int cell = 0; cell < 15; cell++) {
            x.alter(0, cell, 1);
            due("without the parity of the cell " + cell, x.failing(0) & bit, bit);
            x.alter(0, 18 + number, factors[cell]);
            due("with it", x.failing(0) & bit, 0);
            x.alter(0, 15 + cell / 5, 6);
            due("local parities are in no global check", x.failing(0) & bit, 0);
            x.alter(0, cell, 0);
            due("without the cell " + cell, x.failing(0) & bit, bit);
            x.alter(0, 18 + number, 0);
        }
    }

    @Sentence(at = "STRIPES", says = "A stripe is consistent if all its checks hold (with all cells there).")
    static void consistentWithAllCellsThereAlone() {
        LocalMenders x = new LocalMenders();
        due("all cells 0", x.failing(0), 0);
        x.alter(0, 9, 1);
        due("all checks but one", x.failing(0), 8);
        due("it has a culprit", x.culprit(0), 9);
        x.lose(0, 9);
        due("a cell is lost", x.failing(0), NOT_POSSIBLE);
        due("a cell is lost", x.culprit(0), NOT_POSSIBLE);
    }

    @Sentence(at = "STRIPES", says = "At first, and with each new layout, all cells are there, and are 0.")
    static void allCellsAreThereAndZero() {
        LocalMenders x = new LocalMenders();
        for (int stripe = 0; stripe < 4; stripe++) {
            due("at first", x.lost(stripe), 0);
            cellsAre("at first", x, stripe, 0, 0, 0, 0, 0, 0, 0, 0, 0, 0);
        }
        LocalMenders y = Story.rich().told();
        y.setLayout(2, 3, 4, 1);
        for (int stripe = 0; stripe < 4; stripe++) {
            due("with the same layout", y.lost(stripe), 0);
            cellsAre("with the same layout", y, stripe, 0, 0, 0, 0, 0, 0, 0, 0, 0, 0);
        }
        LocalMenders z = Story.layout(3, 5, 8, 5).and(a -> a.write(7, 14, 15)).losing(7, 19, 0).told();
        z.setLayout(1, 2, 8, 5);
        z.setLayout(3, 5, 8, 5);
        due("with a larger layout", z.lost(7), 0);
        cellsAre("with a larger layout", z, 7, new int[20]);
    }

    // ---- lost cells

    @Sentence(at = "LOST CELLS", says = "A cell can be lost; it has no value then.")
    static void aLostCellHasNoValue() {
        LocalMenders x = new LocalMenders();
        x.write(0, 0, 5);
        due("lose", x.lose(0, 0), 1);
        due("value", x.value(0, 0), NONE);
        due("its neighbour has one", x.value(0, 1), 0);
        due("the same cell elsewhere has one", x.value(1, 0), 0);
    }

    @Sentence(at = "LOST CELLS", says = "a cell that is lost goes to its end")
    static void theQueuesEnd() {
        LocalMenders x = new LocalMenders();
        queueIs("empty", x);
        loseAll(x, 3, 9);
        queueIs("one", x, 309);
        loseAll(x, 0, 0);
        queueIs("two", x, 309, 0);
        loseAll(x, 3, 0);
        queueIs("three", x, 309, 0, 300);
        loseAll(x, 3, 9);
        queueIs("lost already", x, 309, 0, 300);
    }

    @Sentence(at = "LOST CELLS", says = "a cell that is lost goes to its end")
    static void theFullQueue() {
        LocalMenders x = store(3, 5, 8, 5);
        for (int cell = 19; cell >= 0; cell--) {
            for (int stripe = 0; stripe < 8; stripe++) {
                due("lose", x.lose(stripe, cell), 8 * (19 - cell) + stripe + 1);
            }
        }
        due("the first one", x.waiting(0), 19);
        due("the last one", x.waiting(159), 700);
        due("behind it", x.waiting(160), NONE);
    }

    @Sentence(at = "LOST CELLS", says = "a cell that is mended leaves the queue")
    static void theFirstTheMiddleAndTheLastLeaveTheQueue() {
        Story three = Story.fresh().losing(0, 0).losing(1, 1).losing(2, 2);
        queueIs("without the first", three.and(x -> x.mend(0, 0)).told(), 101, 202);
        queueIs("without the middle", three.and(x -> x.mend(1, 1)).told(), 0, 202);
        queueIs("without the last", three.and(x -> x.mend(2, 2)).told(), 0, 101);
        queueIs("lost again", three.and(x -> x.mend(0, 0)).and(x -> x.lose(0, 0)).told(), 101, 202, 0);
        queueIs("empty again", three.and(x -> x.work(3)).told());
    }

    @Sentence(at = "LOST CELLS", says = "a cell that is mended leaves the queue")
    static void theLongestQueueOfWhichACellCanBeMended() {
        // the cells 0 to 4 of the stripe 7 are there, and their local parity is the last one that is lost
        LocalMenders x = store(3, 5, 8, 0);
        for (int cell = 19; cell >= 0; cell--) {
            for (int stripe = 0; stripe < 8; stripe++) {
                if (cell != 15 && (stripe < 7 || cell > 4)) {
                    x.lose(stripe, cell);
                }
            }
        }
        for (int stripe = 0; stripe < 8; stripe++) {
            x.lose(stripe, 15);
        }
        due("lost", x.total(5), 155);
        due("the last one", x.waiting(154), 715);
        due("mend", x.mend(7, 15), 5);
        due("lost", x.total(5), 154);
        due("the last one then", x.waiting(153), 615);
        due("none behind it", x.waiting(154), NONE);
        due("the first one", x.waiting(0), 19);
    }

    @Sentence(at = "LOST CELLS", says = "With a new layout the queue is empty.")
    static void aNewLayoutsQueue() {
        queueIs("the same layout", Story.rich().and(x -> x.setLayout(2, 3, 4, 1)).told());
        queueIs("another layout", Story.rich().and(x -> x.setLayout(3, 5, 8, 5)).told());
        queueIs("and then a cell", Story.rich().and(x -> x.setLayout(2, 3, 4, 1)).losing(2, 7).told(), 207);
    }

    @Sentence(at = "LOST CELLS", says = "the first of which that is possible is taken")
    static void theGroupComesBeforeTheStripe() {
        LocalMenders x = new LocalMenders();
        x.write(0, 0, 9);
        x.lose(0, 0);
        due("way", x.way(0, 0), 1);
        due("reads", x.reads(0, 0), 3);
        due("mend", x.mend(0, 0), 3);
        due("in their groups", x.total(8), 1);
        x.alter(0, 0, 8);
        x.lose(0, 1);
        due("where the stripe's way would fail", x.way(0, 1), 1);
        due("the sum of the group", x.mended(0, 1), 1);
    }

    @Sentence(at = "LOST CELLS", says = "the first of which that is possible is taken")
    static void theDataComeBeforeTheStripe() {
        LocalMenders x = new LocalMenders();
        x.write(0, 0, 9);
        x.lose(0, 9);
        due("way", x.way(0, 9), 2);
        due("reads", x.reads(0, 9), 6);
        x.alter(0, 0, 8);
        due("where the stripe's way would fail", x.way(0, 9), 2);
        due("what the check demands", x.mended(0, 9), 8);
    }

    @Sentence(at = "LOST CELLS", says = "it is a data cell or a local parity")
    static void dataCellsAndLocalParitiesHaveAGroup() {
        for (int groups = 1; groups <= 4; groups++) {
            LocalMenders x = store(groups, 2, 1, 0);
            for (int cell = 0; cell < 3 * groups + 2; cell++) {
                x.lose(0, cell);
                due("way of the cell " + cell + " of " + groups + " groups", x.way(0, cell), cell < 3 * groups ? 1 : 2);
                x.mend(0, cell);
            }
        }
    }

    @Sentence(at = "LOST CELLS", says = "all other cells of its group (with its local parity) are there")
    static void oneOtherCellOfTheGroupIsEnoughToBarTheWay() {
        int[] group = {3, 4, 5, 7};
        for (int lost : group) {
            for (int other = 0; other < 10; other++) {
                LocalMenders x = new LocalMenders();
                loseAll(x, 0, lost, other);
                boolean barred = other != lost && (other >= 3 && other <= 5 || other == 7);
                due("way of " + lost + " without " + other, x.way(0, lost), barred ? 3 : 1);
            }
        }
    }

    @Sentence(at = "LOST CELLS", says = "all other cells of its group (with its local parity) are there")
    static void allCellsOutsideTheGroupMayBeLost() {
        LocalMenders x = new LocalMenders();
        x.write(0, 5, 12);
        loseAll(x, 0, 0, 1, 2, 6, 8, 9, 5);
        due("way of the last one of its group", x.way(0, 5), 1);
        due("its value", x.mended(0, 5), 12);
        due("way of one of the others", x.way(0, 2), 0);
    }

    @Sentence(at = "LOST CELLS", says = "These s cells are read; the mended cell is their sum.")
    static void theSmallestAndTheLargestGroupAreRead() {
        LocalMenders x = store(2, 2, 1, 0);
        x.alter(0, 2, 9);
        x.alter(0, 5, 3);
        x.lose(0, 3);
        due("two cells", x.mend(0, 3), 2);
        cellsAre("their sum", x, 0, 0, 0, 9, 10, 0, 3, 0, 0);
        loadsAre("each once", x, 0, 0, 1, 0, 0, 1, 0, 0);
        LocalMenders y = store(2, 6, 1, 0);
        y.alter(0, 6, 9);
        y.alter(0, 11, 3);
        y.lose(0, 13);
        due("six cells", y.mend(0, 13), 6);
        due("their sum", y.value(0, 13), 10);
        loadsAre("each once", y, 0, 0, 0, 0, 0, 0, 1, 1, 1, 1, 1, 1, 0, 0, 0, 0);
    }

    @Sentence(at = "LOST CELLS", says = "it is a global parity, and all data cells are there")
    static void oneDataCellIsEnoughToBarTheWay() {
        for (int parity = 8; parity <= 9; parity++) {
            for (int cell = 0; cell < 10; cell++) {
                LocalMenders x = new LocalMenders();
                loseAll(x, 0, parity, cell);
                due("way of " + parity + " without " + cell, x.way(0, parity), cell < 6 ? 3 : 2);
            }
        }
    }

    @Sentence(at = "LOST CELLS", says = "it is a global parity, and all data cells are there")
    static void allOtherParitiesMayBeLost() {
        LocalMenders x = new LocalMenders();
        x.write(0, 5, 1);
        loseAll(x, 0, 6, 7, 8, 9);
        // 2^5 is 6, and 2^10 is 7
        due("way", x.way(0, 8), 2);
        due("first global parity", x.mended(0, 8), 6);
        due("way", x.way(0, 9), 2);
        due("second global parity", x.mended(0, 9), 7);
    }

    @Sentence(at = "LOST CELLS", says = "These are read; the mended cell is what its check demands.")
    static void theFewestAndTheMostDataCellsAreRead() {
        LocalMenders x = store(1, 2, 1, 0);
        x.alter(0, 1, 8);
        x.lose(0, 4);
        due("two cells", x.mend(0, 4), 2);
        cellsAre("4 times 8 is 6", x, 0, 0, 8, 0, 0, 6);
        loadsAre("each once", x, 1, 1, 0, 0, 0);
        LocalMenders y = store(3, 5, 1, 0);
        y.alter(0, 14, 1);
        y.lose(0, 18);
        due("fifteen cells", y.mend(0, 18), 15);
        due("2^14 is 9", y.value(0, 18), 9);
        loadsAre("each once", y, 1, 1, 1, 1, 1, 1, 1, 1, 1, 1, 1, 1, 1, 1, 1, 0, 0, 0, 0, 0);
    }

    @Sentence(at = "LOST CELLS", says = "in all such choices of values the lost cell has the same value")
    static void asManyLostCellsAsChecksButNotOneMore() {
        LocalMenders x = new LocalMenders();
        x.write(0, 0, 9);
        x.write(0, 3, 14);
        loseAll(x, 0, 0, 1, 3, 4);
        for (int cell : new int[] {0, 1, 3, 4}) {
            due("way of " + cell, x.way(0, cell), 3);
        }
        due("value", x.mended(0, 0), 9);
        due("value", x.mended(0, 1), 0);
        due("value", x.mended(0, 3), 14);
        due("value", x.mended(0, 4), 0);
        x.lose(0, 6);
        for (int cell : new int[] {0, 1, 3, 4, 6}) {
            due("way of " + cell + " with one more", x.way(0, cell), 0);
        }
        LocalMenders y = store(4, 2, 1, 0);
        loseAll(y, 0, 0, 1, 2, 3, 4, 6);
        due("six with six checks", y.way(0, 0), 3);
        due("alone in its group", y.way(0, 6), 1);
        y.lose(0, 5);
        due("seven", y.way(0, 0), 0);
    }

    @Sentence(at = "LOST CELLS", says = "in all such choices of values the lost cell has the same value")
    static void fourDependentCells() {
        // 2^0 + 2^2 and 2^4 + 2^5 are both 5: with these four cells the checks hold in 16 ways
        LocalMenders x = new LocalMenders();
        loseAll(x, 0, 0, 2, 4, 5);
        for (int cell : new int[] {0, 2, 4, 5}) {
            due("way of " + cell, x.way(0, cell), 0);
            due("mended of " + cell, x.mended(0, cell), NOT_POSSIBLE);
        }
        LocalMenders y = new LocalMenders();
        loseAll(y, 0, 0, 2, 3, 5);
        due("four others, with as many in each group", y.way(0, 0), 3);
    }

    @Sentence(at = "LOST CELLS", says = "in all such choices of values the lost cell has the same value")
    static void oneWithTheSameValueBesideOthersWithMany() {
        LocalMenders x = new LocalMenders();
        x.write(0, 1, 13);
        x.write(0, 4, 2);
        loseAll(x, 0, 0, 2, 4, 5, 1);
        due("way", x.way(0, 1), 3);
        due("value", x.mended(0, 1), 13);
        for (int cell : new int[] {0, 2, 4, 5}) {
            due("way of " + cell, x.way(0, cell), 0);
        }
        due("mend", x.mend(0, 1), 5);
        due("value", x.value(0, 1), 13);
        due("the others are where they were", x.way(0, 0), 0);
    }

    @Sentence(at = "LOST CELLS", says = "All cells of the stripe that are there are read; the mended cell is that value.")
    static void theMostAndTheFewestCellsOfAStripeAreRead() {
        LocalMenders x = store(3, 5, 2, 1);
        x.write(1, 0, 7);
        loseAll(x, 1, 0, 1);
        due("all but two", x.mend(1, 0), 18);
        due("value", x.value(1, 0), 7);
        loadsAre("each once", x, 1, 0, 0, 1, 1, 1, 1, 1, 1, 1, 1, 1, 1, 1, 1, 1, 1, 1, 1, 1);
        LocalMenders y = store(1, 2, 1, 0);
        y.write(0, 1, 9);
        loseAll(y, 0, 0, 1, 2);
        due("two of five", y.mend(0, 1), 2);
        due("value", y.value(0, 1), 9);
        loadsAre("the global parities", y, 0, 0, 0, 1, 1);
    }

    @Sentence(at = "LOST CELLS", says = "(If there is no such choice, because cells were changed silently, the cell cannot be mended in this way.)")
    static void noChoiceBecauseOfAChangedCell() {
        Story two = Story.fresh().and(x -> x.alter(0, 5, 1)).losing(0, 0, 1);
        due("way", two.told().way(0, 0), 0);
        due("mended", two.told().mended(0, 0), NOT_POSSIBLE);
        two.refuses("mend", x -> x.mend(0, 0), NOT_POSSIBLE);
        LocalMenders x = two.told();
        x.alter(0, 5, 0);
        due("changed back", x.way(0, 0), 3);
        LocalMenders y = two.told();
        loseAll(y, 0, 3, 4);
        due("as many lost cells as checks: there is a choice", y.way(0, 0), 3);
    }

    @Sentence(at = "LOST CELLS", says = "(If there is no such choice, because cells were changed silently, the cell cannot be mended in this way.)")
    static void theOtherWaysDoNotAskForAChoice() {
        LocalMenders x = new LocalMenders();
        x.alter(0, 5, 1);
        loseAll(x, 0, 1, 8);
        due("within its group", x.way(0, 1), 1);
        due("the stripe has no choice", x.way(0, 8), 0);
        x.mend(0, 1);
        due("from the data", x.way(0, 8), 2);
    }

    @Sentence(at = "LOST CELLS", says = "When a cell is read, the reads so far and the load of its node increase by 1.")
    static void readsAreCountedOnTheNodesBehindTheWrap() {
        LocalMenders x = new LocalMenders();
        x.lose(3, 5);
        due("mend", x.mend(3, 5), 3);
        // the cells 3, 4 and 7 of the stripe 3
        loadsAre("once", x, 1, 0, 0, 0, 0, 0, 1, 1, 0, 0);
        due("reads", x.total(6), 3);
        x.lose(3, 8);
        due("mend", x.mend(3, 8), 6);
        loadsAre("and six more", x, 1, 0, 0, 1, 1, 1, 2, 2, 1, 0);
        due("reads", x.total(6), 9);
    }

    @Sentence(at = "LOST CELLS", says = "Only mend(), mendNode() and work() read.")
    static void noOtherCallReads() {
        Story rich = Story.rich();
        Story.Call[] calls = {x -> x.write(1, 0, 3), x -> x.alter(1, 0, 3), x -> x.lose(1, 0), x -> x.loseNode(0), LocalMenders::scrub, LocalMenders::keep,
            LocalMenders::perform, LocalMenders::clearText, x -> x.type('n'), x -> x.value(1, 0), x -> x.way(2, 3), x -> x.reads(2, 3), x -> x.mended(2, 3),
            x -> x.culprit(3), x -> x.failing(3), x -> x.survives(3), x -> x.fatalSets(4), LocalMenders::fatalNodes, LocalMenders::busiest};
        for (int k = 0; k < calls.length; k++) {
            LocalMenders x = rich.and(calls[k]).told();
            due("reads after the call " + k, x.total(6), 9);
            loadsAre("after the call " + k, x, 0, 2, 2, 1, 1, 1, 1, 1, 0, 0);
        }
        due("mend reads", rich.and(x -> x.mend(0, 9)).told().total(6), 15);
        due("mendNode reads", rich.and(x -> x.mendNode(9)).told().total(6), 9 + 6 + 8);
        due("work reads", rich.and(x -> x.work(1)).told().total(6), 17);
    }

    // ---- changed cells

    @Sentence(at = "CHANGED CELLS", says = "its value becomes another one, and no other cell changes")
    static void noOtherCellChanges() {
        LocalMenders x = new LocalMenders();
        x.alter(0, 0, 15);
        cellsAre("a data cell", x, 0, 15, 0, 0, 0, 0, 0, 0, 0, 0, 0);
        x.alter(0, 9, 1);
        cellsAre("the last cell", x, 0, 15, 0, 0, 0, 0, 0, 0, 0, 0, 1);
        cellsAre("the next stripe", x, 1, 0, 0, 0, 0, 0, 0, 0, 0, 0, 0);
        Story.rich().refuses("the same value", y -> y.alter(3, 1, 5), NONE);
    }

    @Sentence(at = "CHANGED CELLS", says = "A cell that is there can be changed silently")
    static void aLostCellCannotBeChanged() {
        Story.rich().refuses("lost", x -> x.alter(2, 7, 1), NOT_POSSIBLE);
        Story.rich().changes("beside lost ones", x -> x.alter(2, 6, 1), 0);
    }

    @Sentence(at = "CHANGED CELLS", says = "The culprit of a stripe is defined only if no cell of it is lost")
    static void noCulpritWithALostCell() {
        for (int lost = 0; lost < 10; lost++) {
            int cell = lost;
            Story.fresh().and(x -> x.alter(0, 1, 1)).losing(0, cell).refuses("culprit without " + cell, x -> x.culprit(0), NOT_POSSIBLE);
        }
        due("another stripe may", Story.fresh().and(x -> x.alter(0, 1, 1)).losing(1, 1).told().culprit(0), 1);
    }

    @Sentence(at = "CHANGED CELLS", says = "changing just this cell to some other value makes the stripe consistent, if there is exactly one such cell")
    static void theFirstAndTheLastOfEachKindOfCellAsCulprit() {
        for (int groups = 1; groups <= 4; groups++) {
            for (int size = 2; size <= 6 && groups * size <= 15; size++) {
                for (int cell = 0; cell < groups * size + groups + 2; cell++) {
                    LocalMenders x = store(groups, size, 1, 0);
                    x.alter(0, cell, 1);
                    due("culprit", x.culprit(0), cell);
                    x.alter(0, cell, 15);
                    due("culprit", x.culprit(0), cell);
                }
            }
        }
    }

    @Sentence(at = "CHANGED CELLS", says = "changing just this cell to some other value makes the stripe consistent, if there is exactly one such cell")
    static void twoChangedCellsHaveNoCulprit() {
        for (int first = 0; first < 10; first++) {
            for (int second = first + 1; second < 10; second++) {
                LocalMenders x = new LocalMenders();
                x.alter(0, first, 7);
                x.alter(0, second, 7);
                due("culprit of " + first + " and " + second, x.culprit(0), NONE);
            }
        }
    }

    @Sentence(at = "CHANGED CELLS", says = "changing just this cell to some other value makes the stripe consistent, if there is exactly one such cell")
    static void threeChangedCellsCanPointToAFourth() {
        LocalMenders x = new LocalMenders();
        // as if the cell 1 had been changed by 1: 1 in its group, 2 and 4 in the global checks
        x.alter(0, 6, 1);
        x.alter(0, 8, 2);
        due("two of three", x.culprit(0), NONE);
        x.alter(0, 9, 4);
        due("a cell that was not changed", x.culprit(0), 1);
        due("scrub", x.scrub(), 1);
        cellsAre("consistent, if not as it was", x, 0, 0, 1, 0, 0, 0, 0, 1, 0, 2, 4);
    }

    @Sentence(at = "CHANGED CELLS", says = "and the stripe is not consistent")
    static void aConsistentStripeHasNoCulprit() {
        LocalMenders x = new LocalMenders();
        due("all 0", x.culprit(0), NONE);
        x.write(0, 0, 15);
        due("written", x.culprit(0), NONE);
        x.alter(0, 0, 14);
        due("changed", x.culprit(0), 0);
        x.alter(0, 0, 15);
        due("changed back", x.culprit(0), NONE);
    }
}
