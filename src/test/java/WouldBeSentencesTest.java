/** Promises 24 to 31, what would be: for each sentence that names a boundary case a test of its own. */
public final class WouldBeSentencesTest extends Sentences {
    public static void main(String[] args) throws IllegalAccessException {
        run(WouldBeSentencesTest.class);
    }

    /** Four cells of a group are lost in the stripe 1, so that none of them can be mended. */
    private static Story four() {
        return Story.rich().losing(1, 0, 1, 2, 6);
    }

    // ---- way

    @Sentence(at = "Promise 24", says = {"`stripe`: a stripe", "UNKNOWN"})
    static void p24Stripe() {
        Story.rich().leaves("the first", x -> x.way(0, 9), 2);
        Story.rich().losing(3, 9).leaves("the last", x -> x.way(3, 9), 2);
        refusesUnknownStripes("way", (x, stripe) -> x.way(stripe, 9));
    }

    @Sentence(at = "Promise 24", says = {"`cell`: a cell", "UNKNOWN"})
    static void p24Cell() {
        for (int cell = 0; cell < 10; cell++) {
            int each = cell;
            Story.fresh().losing(3, each).leaves("the cell " + cell, x -> x.way(3, each), each < 8 ? 1 : 2);
        }
        refusesUnknownCells("way", (x, cell) -> x.way(2, cell));
    }

    @Sentence(at = "Promise 24", says = "Returns 1, 2 or 3, or 0 if it cannot be mended")
    static void p24EachWayAndNone() {
        Story.rich().losing(3, 4).leaves("within its group", x -> x.way(3, 4), 1);
        Story.rich().leaves("from the data", x -> x.way(0, 9), 2);
        Story.rich().leaves("from the stripe", x -> x.way(2, 3), 3);
        for (int cell : new int[] {0, 1, 2, 6}) {
            four().leaves("not at all", x -> x.way(1, cell), 0);
        }
        Story all = Story.fresh().losing(0, 0, 1, 2, 3, 4, 5, 6, 7, 8, 9);
        for (int cell = 0; cell < 10; cell++) {
            int each = cell;
            all.leaves("with no cell there", x -> x.way(0, each), 0);
        }
        Story.rich().losing(3, 4, 5).leaves("no choice of values", x -> x.way(3, 4), 0);
    }

    @Sentence(at = "Promise 24", says = "NONE if the cell is not lost")
    static void p24NotLost() {
        Story.rich().refuses("beside lost cells", x -> x.way(2, 4), NONE);
        Story.rich().refuses("mended", x -> x.way(1, 2), NONE);
        four().refuses("beside cells that cannot be mended", x -> x.way(1, 3), NONE);
        Story.fresh().refuses("a new object", x -> x.way(0, 0), NONE);
    }

    // ---- reads

    @Sentence(at = "Promise 25", says = {"`stripe`: a stripe", "UNKNOWN"})
    static void p25Stripe() {
        Story.rich().leaves("the first", x -> x.reads(0, 9), 6);
        Story.rich().losing(3, 9).leaves("the last", x -> x.reads(3, 9), 6);
        refusesUnknownStripes("reads", (x, stripe) -> x.reads(stripe, 9));
    }

    @Sentence(at = "Promise 25", says = {"`cell`: a cell", "UNKNOWN"})
    static void p25Cell() {
        for (int cell = 0; cell < 10; cell++) {
            int each = cell;
            Story.fresh().losing(3, each).leaves("the cell " + cell, x -> x.reads(3, each), each < 8 ? 3 : 6);
        }
        refusesUnknownCells("reads", (x, cell) -> x.reads(2, cell));
    }

    @Sentence(at = "Promise 25", says = "Returns how many")
    static void p25FromTheFewestToTheMost() {
        due("two of a group", Story.layout(1, 2, 1, 0).losing(0, 2).told().reads(0, 2), 2);
        due("two data cells", Story.layout(1, 2, 1, 0).losing(0, 4).told().reads(0, 4), 2);
        due("two of a stripe", Story.layout(1, 2, 1, 0).losing(0, 0, 1, 2).told().reads(0, 0), 2);
        due("six of a group", Story.layout(2, 6, 1, 0).losing(0, 11).told().reads(0, 11), 6);
        due("fifteen data cells", Story.layout(3, 5, 1, 0).losing(0, 19).told().reads(0, 19), 15);
        due("eighteen of a stripe", Story.layout(3, 5, 1, 0).losing(0, 13, 14).told().reads(0, 14), 18);
    }

    @Sentence(at = "Promise 25", says = "NOT_POSSIBLE if it is lost and cannot be mended")
    static void p25CannotBeMended() {
        for (int cell : new int[] {0, 1, 2, 6}) {
            four().refuses("four of a group", x -> x.reads(1, cell), NOT_POSSIBLE);
        }
        Story.rich().losing(1, 0, 1, 2).leaves("three of a group", x -> x.reads(1, 0), 7);
        Story.rich().losing(3, 4, 5).refuses("no choice of values", x -> x.reads(3, 4), NOT_POSSIBLE);
    }

    @Sentence(at = "Promise 25", says = "NONE if it is not lost")
    static void p25NotLost() {
        Story.rich().refuses("beside lost cells", x -> x.reads(2, 4), NONE);
        Story.rich().refuses("mended", x -> x.reads(1, 2), NONE);
        four().refuses("beside cells that cannot be mended", x -> x.reads(1, 3), NONE);
        Story.fresh().refuses("a new object", x -> x.reads(0, 0), NONE);
    }

    // ---- mended

    @Sentence(at = "Promise 26", says = {"`stripe`: a stripe", "UNKNOWN"})
    static void p26Stripe() {
        Story.rich().leaves("the first", x -> x.mended(0, 9), 11);
        Story.rich().losing(3, 0).leaves("the last", x -> x.mended(3, 0), 5);
        refusesUnknownStripes("mended", (x, stripe) -> x.mended(stripe, 9));
    }

    @Sentence(at = "Promise 26", says = {"`cell`: a cell", "UNKNOWN"})
    static void p26Cell() {
        int[] values = {0, 0, 0, 0, 9, 0, 0, 9, 8, 11};
        for (int cell = 0; cell < 10; cell++) {
            int each = cell;
            Story.rich().and(x -> x.mend(0, 9)).losing(0, each).leaves("the cell " + cell, x -> x.mended(0, each), values[cell]);
        }
        refusesUnknownCells("mended", (x, cell) -> x.mended(2, cell));
    }

    @Sentence(at = "Promise 26", says = "Returns the value")
    static void p26FromTheLeastToTheGreatestInEachWay() {
        for (int value = 0; value < 16; value++) {
            int each = value;
            Story written = Story.fresh().and(x -> x.write(0, 0, each));
            due("within its group", written.losing(0, 0).told().mended(0, 0), value);
            due("from the data", written.losing(0, 8).told().mended(0, 8), value);
            due("from the stripe", written.losing(0, 0, 2, 6).told().mended(0, 6), value);
            due("from the stripe", written.losing(0, 0, 2, 6).told().mended(0, 0), value);
        }
    }

    @Sentence(at = "Promise 26", says = "NOT_POSSIBLE if it is lost and cannot be mended")
    static void p26CannotBeMended() {
        for (int cell : new int[] {0, 1, 2, 6}) {
            four().refuses("four of a group", x -> x.mended(1, cell), NOT_POSSIBLE);
        }
        Story.rich().losing(1, 0, 1, 2).leaves("three of a group", x -> x.mended(1, 0), 0);
        Story.rich().losing(3, 4, 5).refuses("no choice of values", x -> x.mended(3, 4), NOT_POSSIBLE);
    }

    @Sentence(at = "Promise 26", says = "NONE if it is not lost")
    static void p26NotLost() {
        Story.rich().refuses("beside lost cells", x -> x.mended(2, 4), NONE);
        Story.rich().refuses("mended", x -> x.mended(1, 2), NONE);
        four().refuses("beside cells that cannot be mended", x -> x.mended(1, 3), NONE);
        Story.fresh().refuses("a new object", x -> x.mended(0, 0), NONE);
    }

    // ---- culprit

    @Sentence(at = "Promise 27", says = {"`stripe`: a stripe", "UNKNOWN"})
    static void p27Stripe() {
        Story.fresh().and(x -> x.alter(0, 0, 1)).leaves("the first", x -> x.culprit(0), 0);
        Story.rich().leaves("the last", x -> x.culprit(3), 1);
        refusesUnknownStripes("culprit", LocalMenders::culprit);
    }

    @Sentence(at = "Promise 27", says = "Returns the cell")
    static void p27TheFirstAndTheLastCell() {
        LocalMenders x = store(3, 5, 8, 1);
        x.alter(7, 0, 15);
        due("the first", x.culprit(7), 0);
        x.alter(7, 0, 0);
        x.alter(7, 19, 1);
        due("the last", x.culprit(7), 19);
    }

    @Sentence(at = "Promise 27", says = "NOT_POSSIBLE if a cell of the stripe is lost")
    static void p27ALostCell() {
        for (int lost = 0; lost < 10; lost++) {
            Story.rich().losing(3, lost).refuses("culprit without " + lost, x -> x.culprit(3), NOT_POSSIBLE);
        }
        Story.rich().refuses("of a stripe without one", x -> x.culprit(2), NOT_POSSIBLE);
        Story.rich().losing(1, 9).leaves("another stripe is whole", x -> x.culprit(3), 1);
    }

    @Sentence(at = "Promise 27", says = "NONE if there is no culprit")
    static void p27NoCulprit() {
        Story.rich().refuses("a consistent stripe", x -> x.culprit(1), NONE);
        Story.fresh().refuses("a new object", x -> x.culprit(0), NONE);
        Story.rich().and(x -> x.alter(3, 2, 5)).refuses("two changed cells", x -> x.culprit(3), NONE);
        Story.rich().and(LocalMenders::scrub).refuses("scrubbed", x -> x.culprit(3), NONE);
        Story.rich().and(x -> x.alter(3, 1, 0)).refuses("changed back", x -> x.culprit(3), NONE);
    }

    // ---- survives

    @Sentence(at = "Promise 28", says = "the empty set can be")
    static void p28TheEmptySet() {
        Story.fresh().leaves("a new object", x -> x.survives(0), 1);
        four().leaves("where some cannot be mended", x -> x.survives(0), 1);
    }

    @Sentence(at = "Promise 28", says = "OUT_OF_RANGE if cells is negative, or has a bit of a cell that there is not")
    static void p28BitsOfNoCells() {
        refusesOutOfRange(Story.rich(), "survives", LocalMenders::survives, -1, LEAST, -1024, 1 << 10, 1 << 10 | 1, 1 << 19, 1 << 30, GREATEST);
        due("the last cell", new LocalMenders().survives(1 << 9), 1);
        due("the last of twenty", store(3, 5, 1, 0).survives(1 << 19), 1);
        due("behind it", store(3, 5, 1, 0).survives(1 << 20), OUT_OF_RANGE);
        due("the last of five", store(1, 2, 1, 0).survives(1 << 4), 1);
        due("behind it", store(1, 2, 1, 0).survives(1 << 5), OUT_OF_RANGE);
    }

    @Sentence(at = "Promise 28", says = {"`cells`: the set as bits (bit c for the cell c)", "Returns 1 or 0"})
    static void p28FromOneCellToAll() {
        LocalMenders x = new LocalMenders();
        for (int cell = 0; cell < 10; cell++) {
            due("one", x.survives(1 << cell), 1);
            due("all but one", x.survives(1023 ^ 1 << cell), 0);
        }
        due("all", x.survives(1023), 0);
        due("as many as checks", x.survives(0b1100001001), 1);
        due("one more", x.survives(0b1100001011), 0);
        due("four dependent ones", x.survives(0b0000110101), 0);
        due("four others", x.survives(0b0000101101), 1);
        due("all of the smallest stripe", store(1, 2, 1, 0).survives(31), 0);
        due("six with six checks", store(4, 2, 1, 0).survives(0b11000001010101), 1);
    }

    @Sentence(at = "Promise 28", says = "all of them could be mended then, one after the other in some order")
    static void p28AsManyAsCanBeMendedOneAfterTheOther() {
        for (int set = 0; set < 1 << 8; set++) {
            LocalMenders x = store(1, 5, 1, 0);
            for (int cell = 0; cell < 8; cell++) {
                if ((set >> cell & 1) == 1) {
                    x.lose(0, cell);
                }
            }
            due("survives " + set, x.survives(set), x.total(5) == 0 || x.work(50) > 0 && x.total(5) == 0 ? 1 : 0);
        }
    }

    @Sentence(at = "Promise 28", says = "(if the stripe was consistent, and no other cell was lost")
    static void p28WhateverIsLostOrChangedNow() {
        Story all = Story.fresh().and(x -> x.alter(1, 0, 3)).losing(0, 0, 1, 2, 3, 4, 5, 6, 7, 8, 9).losing(1, 1, 2, 6);
        all.leaves("three of a group", x -> x.survives(0b0000000111), 1);
        all.leaves("four of a group", x -> x.survives(0b0001000111), 0);
        all.leaves("none", x -> x.survives(0), 1);
    }

    // ---- fatalSets

    @Sentence(at = "Promise 29", says = {"`cells`: 1 to 4", "OUT_OF_RANGE"})
    static void p29Cells() {
        refusesOutOfRange(Story.rich(), "fatalSets", LocalMenders::fatalSets, 0, 5, -1, LEAST, GREATEST);
        Story.rich().leaves("one", x -> x.fatalSets(1), 0);
        Story.layout(1, 2, 1, 0).leaves("four", x -> x.fatalSets(4), 5);
    }

    @Sentence(at = "Promise 29", says = "Tells how many sets of cells of one stripe with a number of cells do not survive.")
    static void p29NoneWithThreeAndSomeWithFour() {
        for (int groups = 1; groups <= 4; groups++) {
            for (int size = 2; size <= 6 && groups * size <= 15; size++) {
                LocalMenders x = store(groups, size, 8, 5);
                for (int cells = 1; cells <= 3; cells++) {
                    due("fatalSets(" + cells + ") of " + groups + " " + size, x.fatalSets(cells), 0);
                }
                due("fatalSets(4) is none", x.fatalSets(4) > 0 ? 1 : 0, 1);
            }
        }
    }

    @Sentence(at = "Promise 29", says = "Returns how many")
    static void p29AsManyAsSetsThatDoNotSurvive() {
        for (int[] layout : new int[][] {{1, 2}, {1, 5}, {2, 2}, {2, 3}}) {
            int sets = 0;
            LocalMenders x = store(layout[0], layout[1], 1, 0);
            int cells = x.total(4);
            for (int set = 0; set < 1 << cells; set++) {
                if (Integer.bitCount(set) == 4) {
                    sets += x.survives(set) == 0 ? 1 : 0;
                }
            }
            due("fatalSets(4)", x.fatalSets(4), sets);
        }
        LocalMenders y = four().told();
        due("whatever is lost now", y.fatalSets(4), new LocalMenders().fatalSets(4));
    }

    // ---- fatalNodes

    @Sentence(at = "Promise 30", says = "of all sets with the fewest nodes, the one with the least number as bits")
    static void p30TheLeastNumber() {
        due("four of five nodes", store(1, 2, 1, 0).fatalNodes(), 0b1111);
        due("four data cells of a group", store(1, 4, 1, 0).fatalNodes(), 0b1111);
        // 2^0 + 2^2 is 2^4 + 2^5
        due("two data cells each of two groups", store(2, 3, 1, 1).fatalNodes(), 0b110101);
        due("a group with a global parity", store(2, 2, 1, 0).fatalNodes(), 0b1010011);
    }

    @Sentence(at = "Promise 30", says = "of all sets with the fewest nodes, the one with the least number as bits")
    static void p30TheLeastNumberOfEachLayoutAnew() {
        LocalMenders x = store(2, 3, 2, 1);
        due("two stripes", x.fatalNodes(), 0b1111);
        x.setLayout(2, 3, 1, 1);
        due("one of them", x.fatalNodes(), 0b110101);
        due("undo", x.undo(), 1);
        due("two again", x.fatalNodes(), 0b1111);
        due("asked again", x.fatalNodes(), 0b1111);
    }

    private static int slowNodes(int groups, int size, int stripes, int shift) {
        SlowStore slow = new SlowStore();
        slow.setLayout(groups, size, stripes, shift);
        return slow.fatalNodes();
    }

    @Sentence(at = "Promise 30", says = "Returns the set as bits (bit k for the node k)")
    static void p30TheBitsAreNodesAndNotCells() {
        LocalMenders x = store(2, 3, 2, 1);
        due("the nodes 0 to 3", x.fatalNodes(), 0b1111);
        due("the cells 0 to 3 survive", x.survives(0b1111), 1);
        due("the cells 9, 0, 1 and 2, which are on these nodes, do not", x.survives(0b1000000111), 0);
    }

    @Sentence(at = "Promise 30", says = "with which the cells of some stripe that are on these nodes do not survive")
    static void p30OfTheLastStripeAlone() {
        // in the stripe 1 the nodes 0 to 3 have the cells 9, 0, 1, 2: three of a group and a global parity
        due("the stripe 1", store(2, 3, 2, 1).fatalNodes(), 0b1111);
        due("and others", new LocalMenders().fatalNodes(), 0b1111);
        due("without a shift", store(2, 3, 8, 0).fatalNodes(), 0b110101);
        int alone = 0;
        for (int stripes = 2; stripes <= 8; stripes++) {
            for (int shift = 1; shift <= 5; shift++) {
                int with = store(2, 3, stripes, shift).fatalNodes();
                due("fatalNodes of " + stripes + " stripes with the shift " + shift, with, slowNodes(2, 3, stripes, shift));
                alone += with < store(2, 3, stripes - 1, shift).fatalNodes() ? 1 : 0;
            }
        }
        due("is the last stripe the only one at times?", alone > 0 ? 1 : 0, 1);
    }

    @Sentence(at = "Promise 30", says = "with which the cells of some stripe that are on these nodes do not survive")
    static void p30NodesBehindTheWrap() {
        for (int shift = 0; shift <= 5; shift++) {
            LocalMenders x = store(3, 4, 8, shift);
            due("fatalNodes with the shift " + shift, x.fatalNodes(), slowNodes(3, 4, 8, shift));
            due("some stripe does not survive", survivesWithout(x, x.fatalNodes()), 0);
        }
    }

    /** 1 if all stripes survive without these nodes. */
    private static int survivesWithout(LocalMenders x, int nodes) {
        int all = 1;
        for (int stripe = 0; stripe < x.total(2); stripe++) {
            int cells = 0;
            for (int cell = 0; cell < x.total(4); cell++) {
                cells |= (nodes >> x.node(stripe, cell) & 1) << cell;
            }
            all &= x.survives(cells);
        }
        return all;
    }

    @Sentence(at = "Promise 30", says = "(whatever is lost now)")
    static void p30WhateverIsLostNow() {
        Story all = Story.layout(2, 3, 2, 1);
        for (int node = 0; node < 10; node++) {
            int each = node;
            all = all.and(x -> x.loseNode(each));
        }
        all.leaves("all cells are lost", LocalMenders::fatalNodes, 0b1111);
        Story.rich().and(x -> x.alter(1, 0, 5)).leaves("some are lost or changed", LocalMenders::fatalNodes, 0b1111);
    }

    /** No layout is without such a set: with fewer than four nodes there is none, with four always some. */
    @Sentence(at = "Promise 30", says = "NONE if there is none with at most 4 nodes")
    static void p30FourNodesAreAlwaysFatalSomewhere() {
        for (int groups = 1; groups <= 4; groups++) {
            for (int size = 2; size <= 6 && groups * size <= 15; size++) {
                LocalMenders x = store(groups, size, 1, 0);
                int nodes = x.fatalNodes();
                due("is it a set?", nodes > 0 ? 1 : 0, 1);
                due("nodes of it", Integer.bitCount(nodes), 4);
                due("the stripe without them", x.survives(nodes), 0);
                due("fatal sets of three", x.fatalSets(3), 0);
            }
        }
    }

    // ---- busiest

    @Sentence(at = "Promise 31", says = "NONE if no cell was read since the layout was set")
    static void p31NoCellWasRead() {
        Story.fresh().refuses("a new object", LocalMenders::busiest, NONE);
        Story.fresh().losing(0, 0).refuses("before it is mended", LocalMenders::busiest, NONE);
        Story.rich().and(x -> x.setLayout(2, 3, 4, 1)).refuses("the same layout set", LocalMenders::busiest, NONE);
        Story.rich().and(x -> x.setLayout(2, 3, 4, 1)).back(1).leaves("and undone", LocalMenders::busiest, 1);
        due("the only mending undone", Story.fresh().losing(0, 0).and(x -> x.mend(0, 0)).back(1).told().busiest(), NONE);
    }

    @Sentence(at = "Promise 31", says = "of several the one with the least number")
    static void p31TheLeastOfSeveral() {
        Story.rich().leaves("1 of 1 and 2", LocalMenders::busiest, 1);
        due("0 of all six data cells", Story.fresh().losing(0, 9).and(x -> x.mend(0, 9)).told().busiest(), 0);
        due("2 of 6, 7 and 2", Story.layout(2, 3, 4, 2).losing(3, 2).and(x -> x.mend(3, 2)).told().busiest(), 2);
    }

    @Sentence(at = "Promise 31", says = {"Tells the node with the greatest load.", "Returns the node"})
    static void p31TheFirstAndTheLastNode() {
        // of each group all cells but one are lost and mended, one after the other, so that this one is read most
        mendedEach(Story.fresh(), 0, 1, 2, 6).leaves("the first node", LocalMenders::busiest, 0);
        mendedEach(Story.fresh(), 3, 0, 1, 2).leaves("the last node of ten", LocalMenders::busiest, 9);
        mendedEach(Story.layout(3, 5, 2, 4), 1, 0, 1, 2, 3, 4).leaves("the last node of twenty", LocalMenders::busiest, 19);
        mendedEach(Story.layout(1, 2, 3, 1), 2, 0, 1).leaves("the last node of five", LocalMenders::busiest, 4);
    }

    private static Story mendedEach(Story story, int stripe, int... cells) {
        Story longer = story;
        for (int cell : cells) {
            longer = longer.losing(stripe, cell).and(x -> x.mend(stripe, cell));
        }
        return longer;
    }
}
