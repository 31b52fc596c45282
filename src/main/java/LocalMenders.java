import java.util.Arrays;

/**
 * A store of stripes of cells that is protected by a locally repairable code
 * over the field with 16 elements. The document of the project says what each
 * method promises; README.md says how to use the class.
 *
 * <p>The checks of a stripe are kept packed: one int holds one element of the
 * field for each check, four bits each, that of check 0 lowest. Packed ints are
 * added by ^, and by this all checks are reckoned with at once.
 */
public final class LocalMenders {
    public static final int UNKNOWN = -1;
    public static final int OUT_OF_RANGE = -2;
    public static final int FULL = -3;
    public static final int NOT_POSSIBLE = -4;
    public static final int NONE = -5;

    private static final int MOST_GROUPS = 4;
    private static final int LEAST_SIZE = 2;
    private static final int MOST_SIZE = 6;
    private static final int MOST_DATA = 15;
    private static final int MOST_STRIPES = 8;
    private static final int MOST_SHIFT = 5;
    /** 3 groups of 5 have the most cells: 15 + 3 + 2. */
    private static final int MOST_CELLS = 20;
    private static final int MOST_CHECKS = 6;
    private static final int MOST_VALUE = 15;
    private static final int MOST_STEPS = 50;
    private static final int MOST_LOSSES = 4;
    private static final int HISTORY_ROOM = 4;
    private static final int TEXT_ROOM = 60;
    private static final int FAULT_BASE = -100;
    private static final int NO_FAULT = -1;
    private static final int NO_SIGN = -1;
    private static final int NO_NUMBER = -1;
    /** A place of the queue holds this many times the stripe, plus the cell. */
    private static final int STRIPE_STEP = 100;

    /** 2^15 is 1 again. */
    private static final int PERIOD = 15;
    /** The powers of 2 in the field, from the power 0 on. */
    private static final int[] POWERS = {1, 2, 4, 8, 3, 6, 12, 11, 5, 10, 7, 14, 15, 13, 9};
    /** What each element is to be multiplied by to give 1; 0 stands for that of 0. */
    private static final int[] INVERSES = {0, 1, 9, 14, 13, 11, 7, 6, 15, 2, 12, 5, 10, 4, 3, 8};

    private final State now = new State();
    private final State before = new State();
    private final State snapshot = new State();
    private final State[] history = new State[HISTORY_ROOM];
    private final Orders orders = new Orders();
    private final Plan plan = new Plan();
    private final Search search = new Search();
    private int historyLength = 0;
    private boolean snapshotTaken = false;

    public LocalMenders() {
        for (int place = 0; place < history.length; place++) {
            history[place] = new State();
        }
    }

    // ---- changes

    public int setLayout(int groups, int size, int stripes, int shift) {
        if (!isWithin(groups, 1, MOST_GROUPS) || !isWithin(size, LEAST_SIZE, MOST_SIZE)
                || groups * size > MOST_DATA
                || !isWithin(stripes, 1, MOST_STRIPES) || !isWithin(shift, 0, MOST_SHIFT)) {
            return OUT_OF_RANGE;
        }
        begin();
        now.layOut(groups, size, stripes, shift);
        return finish(now.cellCount());
    }

    public int write(int stripe, int cell, int value) {
        begin();
        return finish(writeCell(stripe, cell, value));
    }

    public int alter(int stripe, int cell, int value) {
        begin();
        return finish(alterCell(stripe, cell, value));
    }

    public int lose(int stripe, int cell) {
        begin();
        return finish(loseCell(stripe, cell));
    }

    public int loseNode(int node) {
        begin();
        return finish(loseCellsOn(node));
    }

    public int mend(int stripe, int cell) {
        begin();
        return finish(mendCell(stripe, cell));
    }

    public int mendNode(int node) {
        begin();
        return finish(mendCellsOn(node));
    }

    public int work(int steps) {
        begin();
        return finish(workOnQueue(steps));
    }

    public int scrub() {
        begin();
        return finish(scrubStripes());
    }

    // ---- texts

    public int type(char character) {
        return orders.append(character);
    }

    public int clearText() {
        int length = orders.length;
        orders.length = 0;
        return length;
    }

    public int perform() {
        int fault = orders.findFault();
        if (fault != NO_FAULT) {
            return FAULT_BASE - fault;
        }
        begin();
        orders.goToStart();
        for (int done = 0; done < orders.count; done++) {
            orders.readOrder();
            int answer = carryOut();
            if (answer < 0 && answer != NONE) {
                return finish(answer);
            }
            orders.pass(';');
        }
        return finish(orders.count);
    }

    // ---- history

    public int undo() {
        if (historyLength <= 0 || historyLength > history.length) {
            return NONE;
        }
        historyLength--;
        now.copyFrom(history[historyLength]);
        return historyLength;
    }

    public int keep() {
        snapshot.copyFrom(now);
        snapshotTaken = true;
        return now.queueLength;
    }

    public int restore() {
        if (!snapshotTaken) {
            return NONE;
        }
        begin();
        now.copyFrom(snapshot);
        return finish(now.queueLength);
    }

    // ---- what there is

    public int value(int stripe, int cell) {
        if (!now.hasCell(stripe, cell)) {
            return UNKNOWN;
        }
        return now.isMissing(stripe, cell) ? NONE : now.valueOf(stripe, cell);
    }

    public int node(int stripe, int cell) {
        return now.hasCell(stripe, cell) ? now.nodeOf(stripe, cell) : UNKNOWN;
    }

    public int load(int node) {
        return now.hasNode(node) ? at(now.loads, node) : UNKNOWN;
    }

    public int lost(int stripe) {
        return now.hasStripe(stripe) ? now.missingIn(stripe) : UNKNOWN;
    }

    public int waiting(int place) {
        if (place < 0) {
            return OUT_OF_RANGE;
        }
        return place < now.queueLength ? at(now.queue, place) : NONE;
    }

    public int failing(int stripe) {
        if (!now.hasStripe(stripe)) {
            return UNKNOWN;
        }
        if (now.missingIn(stripe) != 0) {
            return NOT_POSSIBLE;
        }
        int sums = now.sumsOver(stripe, now.allCells());
        int checks = 0;
        for (int check = 0; check < MOST_CHECKS; check++) {
            if (element(sums, check) != 0) {
                checks |= 1 << check;
            }
        }
        return checks;
    }

    public int total(int what) {
        switch (what) {
            case 0: return now.groups;
            case 1: return now.size;
            case 2: return now.stripes;
            case 3: return now.shift;
            case 4: return now.cellCount();
            case 5: return now.queueLength;
            case 6: return now.readsSoFar;
            case 7: return now.mendsSoFar;
            case 8: return now.localMendsSoFar;
            case 9: return now.lossesSoFar;
            case 10: return historyLength;
            case 11: return orders.length;
            default: return OUT_OF_RANGE;
        }
    }

    // ---- what would be; nothing changes

    public int way(int stripe, int cell) {
        int answer = plan.make(now, stripe, cell);
        return answer == NOT_POSSIBLE ? 0 : answer;
    }

    public int reads(int stripe, int cell) {
        int answer = plan.make(now, stripe, cell);
        return answer >= 0 ? Integer.bitCount(plan.sources) : answer;
    }

    public int mended(int stripe, int cell) {
        int answer = plan.make(now, stripe, cell);
        return answer >= 0 ? plan.outcome : answer;
    }

    public int culprit(int stripe) {
        if (!now.hasStripe(stripe)) {
            return UNKNOWN;
        }
        return now.missingIn(stripe) != 0 ? NOT_POSSIBLE : now.culpritIn(stripe);
    }

    public int survives(int cells) {
        if (cells < 0 || (cells & ~now.allCells()) != 0) {
            return OUT_OF_RANGE;
        }
        return plan.canMendAll(now, cells) ? 1 : 0;
    }

    public int fatalSets(int cells) {
        if (!isWithin(cells, 1, MOST_LOSSES)) {
            return OUT_OF_RANGE;
        }
        search.run(now, cells);
        return search.found;
    }

    public int fatalNodes() {
        for (int count = 1; count <= MOST_LOSSES; count++) {
            search.run(now, count);
            if (search.found > 0) {
                return search.leastNodes;
            }
        }
        return NONE;
    }

    public int busiest() {
        int best = NONE;
        int most = 0;
        for (int node = 0; node < now.cellCount(); node++) {
            if (at(now.loads, node) > most) {
                most = at(now.loads, node);
                best = node;
            }
        }
        return best;
    }

    // ---- the frame of every change

    private void begin() {
        before.copyFrom(now);
    }

    /** Records the state before a change that is done; takes back one that answers an error or NONE. */
    private int finish(int answer) {
        if (answer < 0) {
            now.copyFrom(before);
        } else {
            record();
        }
        return answer;
    }

    private void record() {
        if (historyLength >= history.length) {
            dropOldest();
        }
        if (historyLength >= 0 && historyLength < history.length && history[historyLength] != null) {
            history[historyLength].copyFrom(before);
            historyLength++;
        }
    }

    /** Puts the row of the oldest state behind the others, where it is used again. */
    private void dropOldest() {
        if (history.length > 0) {
            State oldest = history[0];
            for (int place = 1; place < history.length; place++) {
                history[place - 1] = history[place];
            }
            history[history.length - 1] = oldest;
            historyLength = history.length - 1;
        }
    }

    // ---- the changes themselves; an error or NONE may leave them half done, finish() takes that back

    private int writeCell(int stripe, int cell, int value) {
        if (!now.hasCell(stripe, cell) || cell >= now.dataCount()) {
            return UNKNOWN;
        }
        if (!isWithin(value, 0, MOST_VALUE)) {
            return OUT_OF_RANGE;
        }
        if (now.missingIn(stripe) != 0) {
            return NOT_POSSIBLE;
        }
        int previous = now.valueOf(stripe, cell);
        if (previous == value) {
            return NONE;
        }
        now.setValue(stripe, cell, value);
        now.addToParities(stripe, scaled(now.columnOf(cell), previous ^ value));
        return previous;
    }

    private int alterCell(int stripe, int cell, int value) {
        if (!now.hasCell(stripe, cell)) {
            return UNKNOWN;
        }
        if (!isWithin(value, 0, MOST_VALUE)) {
            return OUT_OF_RANGE;
        }
        if (now.isMissing(stripe, cell)) {
            return NOT_POSSIBLE;
        }
        int previous = now.valueOf(stripe, cell);
        if (previous == value) {
            return NONE;
        }
        now.setValue(stripe, cell, value);
        return previous;
    }

    private int loseCell(int stripe, int cell) {
        if (!now.hasCell(stripe, cell)) {
            return UNKNOWN;
        }
        if (now.isMissing(stripe, cell)) {
            return NONE;
        }
        now.takeAway(stripe, cell);
        return now.queueLength;
    }

    private int loseCellsOn(int node) {
        if (!now.hasNode(node)) {
            return UNKNOWN;
        }
        int count = 0;
        for (int stripe = 0; stripe < now.stripes; stripe++) {
            if (loseCell(stripe, now.cellOn(stripe, node)) >= 0) {
                count++;
            }
        }
        return count == 0 ? NONE : count;
    }

    private int mendCell(int stripe, int cell) {
        int answer = plan.make(now, stripe, cell);
        if (answer < 0) {
            return answer;
        }
        now.countReads(stripe, plan.sources);
        now.bringBack(stripe, cell, plan.outcome);
        now.mendsSoFar++;
        if (answer == Plan.IN_GROUP) {
            now.localMendsSoFar++;
        }
        return Integer.bitCount(plan.sources);
    }

    private int mendCellsOn(int node) {
        if (!now.hasNode(node)) {
            return UNKNOWN;
        }
        int count = 0;
        for (int stripe = 0; stripe < now.stripes; stripe++) {
            int answer = mendCell(stripe, now.cellOn(stripe, node));
            if (answer == NOT_POSSIBLE) {
                return NOT_POSSIBLE;
            }
            count += Math.max(answer, 0);
        }
        return count == 0 ? NONE : count;
    }

    private int workOnQueue(int steps) {
        if (!isWithin(steps, 1, MOST_STEPS)) {
            return OUT_OF_RANGE;
        }
        if (now.queueLength == 0) {
            return NONE;
        }
        int count = 0;
        for (int step = 0; step < steps && now.queueLength > 0; step++) {
            int first = at(now.queue, 0);
            if (mendCell(first / STRIPE_STEP, first % STRIPE_STEP) >= 0) {
                count++;
            } else {
                now.leaveQueue(first);
                now.joinQueue(first);
            }
        }
        return count;
    }

    private int scrubStripes() {
        int count = 0;
        for (int stripe = 0; stripe < now.stripes; stripe++) {
            int cell = now.missingIn(stripe) != 0 ? NONE : now.culpritIn(stripe);
            if (cell >= 0) {
                int sums = now.sumsOver(stripe, now.allCells());
                int change = element(sums, now.homeCheck(cell));
                now.setValue(stripe, cell, now.valueOf(stripe, cell) ^ change);
                count++;
            }
        }
        return count == 0 ? NONE : count;
    }

    /** Carries out the order that was read last. */
    private int carryOut() {
        switch (orders.kind) {
            case 'w': return writeCell(orders.stripe, orders.cell, orders.value);
            case 'x': return loseCell(orders.stripe, orders.cell);
            case 'n': return loseCellsOn(orders.node);
            case 'm': return mendCell(orders.stripe, orders.cell);
            default: return NONE;
        }
    }

    // ---- rows and numbers

    private static boolean isWithin(int number, int least, int most) {
        return number >= least && number <= most;
    }

    private static int at(int[] row, int place) {
        return row != null && place >= 0 && place < row.length ? row[place] : 0;
    }

    private static void put(int[] row, int place, int number) {
        if (row != null && place >= 0 && place < row.length) {
            row[place] = number;
        }
    }

    private static void copyRow(int[] from, int[] to) {
        if (from != null && to != null) {
            System.arraycopy(from, 0, to, 0, Math.min(from.length, to.length));
        }
    }

    // ---- the field

    /** Multiplies all elements of a packed int by one factor. */
    private static int scaled(int packed, int factor) {
        int product = 0;
        int multiple = packed;
        for (int bit = 0; bit < 4; bit++) {
            if ((factor >> bit & 1) != 0) {
                product ^= multiple;
            }
            // x^4 is x + 1, so what leaves an element at its top comes back as 3
            multiple = (multiple & 0x777777) << 1 ^ (multiple >>> 3 & 0x111111) * 3;
        }
        return product;
    }

    private static int element(int packed, int check) {
        return packed >>> 4 * check & 15;
    }

    /** The first check at which a packed int is not 0; 0 if it is 0 everywhere. */
    private static int leadOf(int packed) {
        for (int check = 0; check < MOST_CHECKS; check++) {
            if (element(packed, check) != 0) {
                return check;
            }
        }
        return 0;
    }

    /** The multiple of a packed int that is 1 at a check where it is not 0. */
    private static int unitOf(int packed, int check) {
        return scaled(packed, at(INVERSES, element(packed, check)));
    }

    /** All that undo() and restore() bring back. */
    private static final class State {
        private int groups = 0;
        private int size = 0;
        private int stripes = 0;
        private int shift = 0;
        private int readsSoFar = 0;
        private int mendsSoFar = 0;
        private int localMendsSoFar = 0;
        private int lossesSoFar = 0;
        private int queueLength = 0;
        private final int[] queue = new int[MOST_STRIPES * MOST_CELLS];
        private final int[] values = new int[MOST_STRIPES * MOST_CELLS];
        private final int[] missing = new int[MOST_STRIPES];
        private final int[] loads = new int[MOST_CELLS];
        /** For each cell its factors in all checks, packed. */
        private final int[] columns = new int[MOST_CELLS];

        private State() {
            layOut(2, 3, 4, 1);
        }

        private void copyFrom(State other) {
            if (other == null) {
                return;
            }
            groups = other.groups;
            size = other.size;
            stripes = other.stripes;
            shift = other.shift;
            readsSoFar = other.readsSoFar;
            mendsSoFar = other.mendsSoFar;
            localMendsSoFar = other.localMendsSoFar;
            lossesSoFar = other.lossesSoFar;
            queueLength = other.queueLength;
            copyRow(other.queue, queue);
            copyRow(other.values, values);
            copyRow(other.missing, missing);
            copyRow(other.loads, loads);
            copyRow(other.columns, columns);
        }

        private void layOut(int newGroups, int newSize, int newStripes, int newShift) {
            groups = newGroups;
            size = newSize;
            stripes = newStripes;
            shift = newShift;
            queueLength = 0;
            Arrays.fill(values, 0);
            Arrays.fill(missing, 0);
            Arrays.fill(loads, 0);
            for (int cell = 0; cell < cellCount(); cell++) {
                put(columns, cell, 1 << 4 * homeCheck(cell));
            }
            for (int cell = 0; cell < dataCount(); cell++) {
                int first = at(POWERS, cell) << 4 * groups;
                int second = at(POWERS, 2 * cell % PERIOD) << 4 * (groups + 1);
                put(columns, cell, at(columns, cell) | first | second);
            }
        }

        // the layout

        private int dataCount() {
            return groups * size;
        }

        private int cellCount() {
            return groups * size + groups + 2;
        }

        private int allCells() {
            return (1 << cellCount()) - 1;
        }

        private boolean hasStripe(int stripe) {
            return stripe >= 0 && stripe < stripes;
        }

        private boolean hasCell(int stripe, int cell) {
            return hasStripe(stripe) && cell >= 0 && cell < cellCount();
        }

        private boolean hasNode(int node) {
            return node >= 0 && node < cellCount();
        }

        private int nodeOf(int stripe, int cell) {
            int nodes = cellCount();
            return nodes > 0 ? Math.floorMod(cell + stripe * shift, nodes) : 0;
        }

        private int cellOn(int stripe, int node) {
            int nodes = cellCount();
            return nodes > 0 ? Math.floorMod(node - stripe * shift, nodes) : 0;
        }

        /** The nodes of a set of cells of a stripe, as bits: the set, turned by the shift. */
        private int nodesOf(int stripe, int cells) {
            int turn = nodeOf(stripe, 0);
            return (cells << turn | cells >>> (cellCount() - turn)) & allCells();
        }

        /** The check that a parity is there for, or the local one of a data cell: the cell's factor in it is 1. */
        private int homeCheck(int cell) {
            if (cell >= dataCount()) {
                return cell - dataCount();
            }
            return size > 0 ? cell / size : 0;
        }

        private int columnOf(int cell) {
            return at(columns, cell);
        }

        /** The other cells of the home check of a cell, as bits. */
        private int partnersOf(int cell) {
            int check = homeCheck(cell);
            if (check >= groups) {
                return (1 << dataCount()) - 1;
            }
            int data = ((1 << size) - 1) << (check * size);
            int parity = 1 << (dataCount() + check);
            return (data | parity) & ~(1 << cell);
        }

        // the cells

        private int valueOf(int stripe, int cell) {
            return at(values, stripe * MOST_CELLS + cell);
        }

        private void setValue(int stripe, int cell, int value) {
            put(values, stripe * MOST_CELLS + cell, value);
        }

        private void addToParities(int stripe, int sums) {
            for (int check = 0; check < groups + 2; check++) {
                int parity = dataCount() + check;
                setValue(stripe, parity, valueOf(stripe, parity) ^ element(sums, check));
            }
        }

        private int missingIn(int stripe) {
            return at(missing, stripe);
        }

        private boolean isMissing(int stripe, int cell) {
            return (missingIn(stripe) >> cell & 1) != 0;
        }

        /** What some cells of a stripe add to the sums of its checks, packed. */
        private int sumsOver(int stripe, int cells) {
            int sums = 0;
            for (int cell = 0; cell < cellCount(); cell++) {
                if ((cells >> cell & 1) != 0) {
                    sums ^= scaled(columnOf(cell), valueOf(stripe, cell));
                }
            }
            return sums;
        }

        /** No column is a multiple of another one, so there is never more than one such cell. */
        private int culpritIn(int stripe) {
            int sums = sumsOver(stripe, allCells());
            for (int cell = 0; cell < cellCount(); cell++) {
                int change = element(sums, homeCheck(cell));
                if (change != 0 && scaled(columnOf(cell), change) == sums) {
                    return cell;
                }
            }
            return NONE;
        }

        // losing and mending

        private void takeAway(int stripe, int cell) {
            put(missing, stripe, missingIn(stripe) | 1 << cell);
            joinQueue(STRIPE_STEP * stripe + cell);
            lossesSoFar++;
        }

        private void bringBack(int stripe, int cell, int value) {
            put(missing, stripe, missingIn(stripe) & ~(1 << cell));
            setValue(stripe, cell, value);
            leaveQueue(STRIPE_STEP * stripe + cell);
        }

        private void countReads(int stripe, int cells) {
            for (int cell = 0; cell < cellCount(); cell++) {
                if ((cells >> cell & 1) != 0) {
                    int node = nodeOf(stripe, cell);
                    put(loads, node, at(loads, node) + 1);
                    readsSoFar++;
                }
            }
        }

        private void joinQueue(int entry) {
            if (queueLength < queue.length) {
                put(queue, queueLength, entry);
                queueLength++;
            }
        }

        private void leaveQueue(int entry) {
            int place = 0;
            while (place < queueLength && at(queue, place) != entry) {
                place++;
            }
            int behind = queueLength - place - 1;
            if (behind >= 0 && queueLength <= queue.length) {
                System.arraycopy(queue, place + 1, queue, place, behind);
                queueLength--;
            }
        }
    }

    /** How one lost cell would be mended. */
    private static final class Plan {
        private static final int IN_GROUP = 1;
        private static final int FROM_DATA = 2;
        private static final int FROM_STRIPE = 3;

        private final Basis basis = new Basis();
        /** The cells that would be read, as bits. */
        private int sources = 0;
        private int outcome = 0;

        /** The way that would be taken, or why there is none. */
        private int make(State state, int stripe, int cell) {
            if (!state.hasCell(stripe, cell)) {
                return UNKNOWN;
            }
            if (!state.isMissing(stripe, cell)) {
                return NONE;
            }
            int missing = state.missingIn(stripe);
            int partners = state.partnersOf(cell);
            if ((partners & missing) == 0) {
                int check = state.homeCheck(cell);
                sources = partners;
                outcome = element(state.sumsOver(stripe, partners), check);
                return check < state.groups ? IN_GROUP : FROM_DATA;
            }
            sources = state.allCells() & ~missing;
            basis.span(state, missing & ~(1 << cell));
            return solve(state.columnOf(cell), state.sumsOver(stripe, sources));
        }

        /**
         * The lost cells, each times its column, must add up to the sums of those
         * that are there. With the columns of all other lost cells taken out of
         * both sides, what is left tells the value of this one.
         */
        private int solve(int column, int sums) {
            int own = basis.restOf(column);
            int wanted = basis.restOf(sums);
            int lead = leadOf(own);
            outcome = scaled(element(wanted, lead), at(INVERSES, element(own, lead)));
            return own != 0 && scaled(own, outcome) == wanted ? FROM_STRIPE : NOT_POSSIBLE;
        }

        /** In a consistent stripe this is so just if no column of the cells is a sum of multiples of the others. */
        private boolean canMendAll(State state, int cells) {
            basis.span(state, cells);
            return basis.rank == Integer.bitCount(cells);
        }
    }

    /** Columns in echelon form: each is 1 at its lead, where all later ones are 0. */
    private static final class Basis {
        private final int[] columns = new int[MOST_CHECKS];
        private final int[] leads = new int[MOST_CHECKS];
        private int rank = 0;

        private void span(State state, int cells) {
            rank = 0;
            for (int cell = 0; cell < state.cellCount(); cell++) {
                int rest = (cells >> cell & 1) != 0 ? restOf(state.columnOf(cell)) : 0;
                if (rest != 0 && rank < MOST_CHECKS) {
                    int lead = leadOf(rest);
                    put(columns, rank, unitOf(rest, lead));
                    put(leads, rank, lead);
                    rank++;
                }
            }
        }

        /** A column without what the basis can give of it: 0 at all leads. */
        private int restOf(int column) {
            int rest = column;
            for (int place = 0; place < rank; place++) {
                rest ^= scaled(at(columns, place), element(rest, at(leads, place)));
            }
            return rest;
        }
    }

    /** Goes through all sets of some number of cells, and looks which do not survive. */
    private static final class Search {
        /** For each level a row of columns, with those of the cells chosen before taken out. */
        private final int[] rests = new int[MOST_LOSSES * MOST_CELLS];
        private int wanted = 0;
        private int found = 0;
        private int leastNodes = 0;

        private void run(State state, int cells) {
            wanted = Math.min(cells, MOST_LOSSES);
            found = 0;
            leastNodes = 0;
            for (int cell = 0; cell < state.cellCount(); cell++) {
                put(rests, cell, state.columnOf(cell));
            }
            choose(state, 0, 0, 0, false);
        }

        /** The levels are the cells chosen so far, at most MOST_LOSSES. */
        private void choose(State state, int level, int from, int chosen, boolean fatal) {
            if (level >= wanted) {
                if (fatal) {
                    note(state, chosen);
                }
                return;
            }
            for (int cell = from; cell < state.cellCount(); cell++) {
                int rest = at(rests, level * MOST_CELLS + cell);
                if (level + 1 < wanted) {
                    takeOut(rest, level, cell + 1, state.cellCount());
                }
                choose(state, level + 1, cell + 1, chosen | 1 << cell, fatal || rest == 0);
            }
        }

        /** Fills the row of the next level: the rests of this one without the multiples of one of them. */
        private void takeOut(int column, int level, int from, int end) {
            int lead = leadOf(column);
            int unit = unitOf(column, lead);
            for (int cell = from; cell < end; cell++) {
                int rest = at(rests, level * MOST_CELLS + cell);
                int factor = element(rest, lead);
                if (factor != 0) {
                    rest ^= scaled(unit, factor);
                }
                put(rests, (level + 1) * MOST_CELLS + cell, rest);
            }
        }

        private void note(State state, int cells) {
            found++;
            for (int stripe = 0; stripe < state.stripes; stripe++) {
                int nodes = state.nodesOf(stripe, cells);
                if (leastNodes == 0 || nodes < leastNodes) {
                    leastNodes = nodes;
                }
            }
        }
    }

    /** The text, and the order that was read from it last. */
    private static final class Orders {
        private final char[] signs = new char[TEXT_ROOM];
        private int length = 0;
        /** Where it is read: where reading fails, this is the fault. */
        private int place = 0;
        private int count = 0;
        private int kind = 0;
        private int stripe = 0;
        private int cell = 0;
        private int node = 0;
        private int value = 0;

        private int append(char character) {
            if (length < 0 || length >= signs.length) {
                return FULL;
            }
            signs[length] = character;
            length++;
            return length;
        }

        private void goToStart() {
            place = 0;
        }

        /** The fault, or NO_FAULT: then the orders are counted. */
        private int findFault() {
            goToStart();
            count = 0;
            do {
                if (!readOrder()) {
                    return place;
                }
                count++;
            } while (count <= TEXT_ROOM && pass(';'));
            return place < length ? place : NO_FAULT;
        }

        private boolean readOrder() {
            kind = sign();
            if (kind == 'n') {
                place++;
                node = readNumber();
                return node != NO_NUMBER;
            }
            if (kind != 'w' && kind != 'x' && kind != 'm') {
                return false;
            }
            place++;
            stripe = readDigit();
            if (stripe == NO_NUMBER || !pass('.')) {
                return false;
            }
            cell = readNumber();
            if (cell == NO_NUMBER || kind != 'w') {
                return cell != NO_NUMBER;
            }
            if (!pass('=')) {
                return false;
            }
            value = readNumber();
            return value != NO_NUMBER;
        }

        /** One or two digits; behind a 0 no other one belongs to the number. */
        private int readNumber() {
            int first = readDigit();
            if (first == NO_NUMBER || first == 0) {
                return first;
            }
            int second = readDigit();
            return second == NO_NUMBER ? first : 10 * first + second;
        }

        private int readDigit() {
            int sign = sign();
            if (sign < '0' || sign > '9') {
                return NO_NUMBER;
            }
            place++;
            return sign - '0';
        }

        private boolean pass(char wanted) {
            if (sign() != wanted) {
                return false;
            }
            place++;
            return true;
        }

        private int sign() {
            return place >= 0 && place < length && place < signs.length ? signs[place] : NO_SIGN;
        }
    }
}
