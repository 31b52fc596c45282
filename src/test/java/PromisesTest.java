/** For each promise of the document: ordinary calls, the edges that it names, and wrong arguments with the order of their errors. */
public final class PromisesTest {
    private static final int UNKNOWN = -1, OUT_OF_RANGE = -2, FULL = -3, NOT_POSSIBLE = -4, NONE = -5;
    private static int promise = 0;
    private static int wrong = 0;

    private static void due(String what, int got, int want) {
        if (got != want) {
            wrong++;
            System.out.println("promise " + promise + ": " + what + " answered " + got + ", due is " + want);
        }
    }

    /** A new store with this layout. */
    private static LocalMenders store(int groups, int size, int stripes, int shift) {
        LocalMenders x = new LocalMenders();
        due("setLayout", x.setLayout(groups, size, stripes, shift), groups * size + groups + 2);
        return x;
    }

    private static void enter(LocalMenders x, String text) {
        x.clearText();
        for (int place = 0; place < text.length(); place++) {
            due("type " + text.charAt(place), x.type(text.charAt(place)), place + 1);
        }
    }

    private static void performs(String text, int want) {
        LocalMenders x = new LocalMenders();
        enter(x, text);
        due("perform of " + text, x.perform(), want);
    }

    /** Loses cells of stripe 0. */
    private static void loseAll(LocalMenders x, int... cells) {
        for (int cell : cells) {
            x.lose(0, cell);
        }
    }

    /** All that the object tells of its state, but not history and text. */
    private static String look(LocalMenders x) {
        StringBuilder all = new StringBuilder();
        for (int what = 0; what < 10; what++) {
            all.append(x.total(what)).append(' ');
        }
        for (int stripe = 0; stripe < x.total(2); stripe++) {
            for (int cell = 0; cell < x.total(4); cell++) {
                all.append(x.value(stripe, cell)).append(' ');
            }
        }
        for (int place = 0; place < x.total(4); place++) {
            all.append(x.load(place)).append(' ');
        }
        for (int place = 0; place < x.total(5); place++) {
            all.append(x.waiting(place)).append(' ');
        }
        return all.toString();
    }

    private static void same(String what, String got, String want) {
        due(what + ": is the state as it was", got.equals(want) ? 1 : 0, 1);
    }

    public static void main(String[] args) {
        promise = 1; newObject();
        promise = 2; setLayout();
        promise = 3; write();
        promise = 4; alter();
        promise = 5; lose();
        promise = 6; loseNode();
        promise = 7; mend(); mendFromStripe();
        promise = 8; mendNode();
        promise = 9; work();
        promise = 10; scrub();
        promise = 11; type();
        promise = 12; clearText();
        promise = 13; perform(); faults(); performErrors();
        promise = 14; undo();
        promise = 15; keep();
        promise = 16; restore();
        promise = 17; value();
        promise = 18; node();
        promise = 19; load();
        promise = 20; lost();
        promise = 21; waiting();
        promise = 22; failing();
        promise = 23; total();
        promise = 24; way();
        promise = 25; reads();
        promise = 26; mended(); mendedByTrying();
        promise = 27; culprit();
        promise = 28; survives();
        promise = 29; fatalSets();
        promise = 30; fatalNodes();
        promise = 31; busiest();
        System.out.println(wrong == 0 ? "PromisesTest: all answers are as due" : "PromisesTest: " + wrong + " answers are not as due");
        if (wrong != 0) {
            System.exit(1);
        }
    }

    private static void newObject() {
        LocalMenders x = new LocalMenders();
        int[] totals = {2, 3, 4, 1, 10, 0, 0, 0, 0, 0, 0, 0};
        for (int what = 0; what < totals.length; what++) {
            due("total(" + what + ")", x.total(what), totals[what]);
        }
        for (int stripe = 0; stripe < 4; stripe++) {
            due("lost", x.lost(stripe), 0);
            due("failing", x.failing(stripe), 0);
            for (int cell = 0; cell < 10; cell++) {
                due("value", x.value(stripe, cell), 0);
            }
        }
        due("undo", x.undo(), NONE);
        due("restore", x.restore(), NONE);
        due("clearText", x.clearText(), 0);
    }

    private static void setLayout() {
        LocalMenders x = new LocalMenders();
        int[][] wrongOnes = {{0, 2, 1, 0}, {5, 2, 1, 0}, {1, 1, 1, 0}, {1, 7, 1, 0}, {1, 2, 0, 0}, {1, 2, 9, 0}, {1, 2, 1, -1}, {1, 2, 1, 6},
            {4, 4, 1, 0}, {3, 6, 1, 0}, {Integer.MAX_VALUE, Integer.MAX_VALUE, 1, 0}, {65536, 65536, 1, 0}, {-1, -2, 1, 0},
            {1, Integer.MIN_VALUE, 1, 0}, {1, 2, Integer.MAX_VALUE, 0}, {1, 2, 1, Integer.MIN_VALUE}};
        for (int[] a : wrongOnes) {
            due("setLayout", x.setLayout(a[0], a[1], a[2], a[3]), OUT_OF_RANGE);
        }
        due("total(10) after errors", x.total(10), 0);
        for (int groups = 1; groups <= 4; groups++) {
            for (int size = 2; size <= 6; size++) {
                int want = groups * size > 15 ? OUT_OF_RANGE : groups * size + groups + 2;
                due("setLayout " + groups + " " + size, x.setLayout(groups, size, 8, 5), want);
            }
        }
        due("setLayout 3 5", x.setLayout(3, 5, 8, 0), 20);
        x.write(7, 14, 9);
        x.lose(7, 13);
        x.mend(7, 13);
        x.lose(7, 2);
        due("reads so far", x.total(6), 5);
        due("load", x.load(12), 1);
        due("the same layout", x.setLayout(3, 5, 8, 0), 20);
        due("value", x.value(7, 14), 0);
        due("lost", x.lost(7), 0);
        due("waiting", x.waiting(0), NONE);
        due("load", x.load(12), 0);
        int[] totals = {3, 5, 8, 0, 20, 0, 5, 1, 1, 2, 4};
        for (int what = 0; what < totals.length; what++) {
            due("total(" + what + ")", x.total(what), totals[what]);
        }
        due("undo", x.undo(), 3);
        due("lost", x.lost(7), 4);
        due("load", x.load(12), 1);
        due("value", x.value(7, 14), 9);
    }

    private static void write() {
        LocalMenders x = new LocalMenders();
        due("write", x.write(1, 4, 9), 0);
        // 2^4 is 3 and 2^8 is 5: 9 * 3 = 8, 9 * 5 = 11
        int[] cells = {0, 0, 0, 0, 9, 0, 0, 9, 8, 11};
        for (int cell = 0; cell < 10; cell++) {
            due("value " + cell, x.value(1, cell), cells[cell]);
        }
        due("write of the same", x.write(1, 4, 9), NONE);
        due("write over it", x.write(1, 4, 5), 9);
        due("local parity", x.value(1, 7), 5);
        // 5 * 3 = 15, 5 * 5 = 2
        due("first global parity", x.value(1, 8), 15);
        due("second global parity", x.value(1, 9), 2);
        due("write back", x.write(1, 4, 0), 5);
        for (int cell = 0; cell < 10; cell++) {
            due("value " + cell, x.value(1, cell), 0);
        }
        due("total(10)", x.total(10), 3);
        x.alter(1, 8, 5);
        due("write beside a changed cell", x.write(1, 5, 1), 0);
        due("the changed parity goes along", x.value(1, 8), 5 ^ 6);
        due("failing", x.failing(1), 4);
        due("UNKNOWN", x.write(-1, 0, 16), UNKNOWN);
        due("UNKNOWN", x.write(4, 0, 1), UNKNOWN);
        due("UNKNOWN", x.write(0, -1, 1), UNKNOWN);
        for (int parity = 6; parity <= 10; parity++) {
            due("a parity", x.write(0, parity, 99), UNKNOWN);
        }
        due("OUT_OF_RANGE", x.write(0, 0, -1), OUT_OF_RANGE);
        due("OUT_OF_RANGE", x.write(0, 0, 16), OUT_OF_RANGE);
        due("15", x.write(0, 5, 15), 0);
        x.lose(0, 9);
        due("UNKNOWN first", x.write(0, 6, 16), UNKNOWN);
        due("OUT_OF_RANGE first", x.write(0, 0, 16), OUT_OF_RANGE);
        due("NOT_POSSIBLE", x.write(0, 0, 1), NOT_POSSIBLE);
        due("NOT_POSSIBLE before NONE", x.write(0, 0, 0), NOT_POSSIBLE);
        due("another stripe", x.write(2, 0, 1), 0);
        for (int cell = 0; cell < 15; cell++) {
            LocalMenders y = store(3, 5, 1, 0);
            due("write " + cell, y.write(0, cell, 1 + cell), 0);
            due("local parity", y.value(0, 15 + cell / 5), 1 + cell);
            due("first global", y.value(0, 18), SlowStore.product(1 + cell, SlowStore.power(cell)));
            due("second global", y.value(0, 19), SlowStore.product(1 + cell, SlowStore.power(2 * cell)));
            due("failing", y.failing(0), 0);
        }
    }

    private static void alter() {
        LocalMenders x = new LocalMenders();
        for (int cell = 0; cell < 10; cell++) {
            due("alter", x.alter(3, cell, cell + 6), 0);
        }
        for (int cell = 0; cell < 10; cell++) {
            due("value", x.value(3, cell), cell + 6);
            due("value", x.value(2, cell), 0);
        }
        due("alter again", x.alter(3, 9, 0), 15);
        due("alter to the same", x.alter(3, 9, 0), NONE);
        due("UNKNOWN", x.alter(4, 0, 16), UNKNOWN);
        due("UNKNOWN", x.alter(-1, 0, 1), UNKNOWN);
        due("UNKNOWN", x.alter(0, 10, -1), UNKNOWN);
        due("UNKNOWN", x.alter(0, -1, 1), UNKNOWN);
        x.lose(3, 2);
        due("OUT_OF_RANGE first", x.alter(3, 2, 16), OUT_OF_RANGE);
        due("OUT_OF_RANGE", x.alter(3, 3, -1), OUT_OF_RANGE);
        due("NOT_POSSIBLE", x.alter(3, 2, 1), NOT_POSSIBLE);
        due("beside a lost cell", x.alter(3, 3, 1), 9);
        due("total(10)", x.total(10), 4);
        due("undo", x.undo(), 3);
        due("value", x.value(3, 3), 9);
    }

    private static void lose() {
        LocalMenders x = new LocalMenders();
        due("lose", x.lose(2, 9), 1);
        due("lose", x.lose(0, 0), 2);
        due("lose", x.lose(2, 1), 3);
        due("lose again", x.lose(2, 9), NONE);
        due("total(10)", x.total(10), 3);
        due("total(9)", x.total(9), 3);
        due("lost", x.lost(2), 1 << 9 | 1 << 1);
        due("waiting", x.waiting(0), 209);
        due("waiting", x.waiting(1), 0);
        due("waiting", x.waiting(2), 201);
        due("value", x.value(2, 9), NONE);
        int[][] wrongOnes = {{-1, 0}, {4, 0}, {0, -1}, {0, 10}, {Integer.MAX_VALUE, 0}, {0, Integer.MIN_VALUE}};
        for (int[] a : wrongOnes) {
            due("UNKNOWN", x.lose(a[0], a[1]), UNKNOWN);
        }
        LocalMenders all = store(3, 5, 8, 5);
        for (int stripe = 0; stripe < 8; stripe++) {
            for (int cell = 0; cell < 20; cell++) {
                due("lose", all.lose(stripe, cell), 20 * stripe + cell + 1);
            }
        }
        due("the last one", all.waiting(159), 719);
        due("none behind it", all.waiting(160), NONE);
    }

    private static void loseNode() {
        LocalMenders x = new LocalMenders();
        x.lose(1, 0);
        due("loseNode", x.loseNode(1), 3);
        // node 1: cell 1, then cell 0 (lost already), then cells 9 and 8
        due("waiting", x.waiting(0), 100);
        due("waiting", x.waiting(1), 1);
        due("waiting", x.waiting(2), 209);
        due("waiting", x.waiting(3), 308);
        due("total(9)", x.total(9), 4);
        due("again", x.loseNode(1), NONE);
        due("total(10)", x.total(10), 2);
        due("UNKNOWN", x.loseNode(-1), UNKNOWN);
        due("UNKNOWN", x.loseNode(10), UNKNOWN);
        due("the last node", x.loseNode(9), 4);
        due("undo", x.undo(), 2);
        due("total(5)", x.total(5), 4);
        LocalMenders y = store(1, 2, 8, 5);
        due("5 nodes, shift 5", y.loseNode(2), 8);
        for (int stripe = 0; stripe < 8; stripe++) {
            due("lost", y.lost(stripe), 4);
        }
        due("UNKNOWN", y.loseNode(5), UNKNOWN);
    }

    private static void mend() {
        LocalMenders x = new LocalMenders();
        x.write(1, 0, 5);
        x.write(1, 1, 12);
        x.lose(1, 1);
        due("within the group", x.mend(1, 1), 3);
        due("value", x.value(1, 1), 12);
        due("lost", x.lost(1), 0);
        due("waiting", x.waiting(0), NONE);
        int[] loads = {0, 1, 0, 1, 0, 0, 0, 1, 0, 0};
        for (int node = 0; node < 10; node++) {
            due("load " + node, x.load(node), loads[node]);
        }
        due("total(6)", x.total(6), 3);
        due("total(7)", x.total(7), 1);
        due("total(8)", x.total(8), 1);
        due("total(9)", x.total(9), 1);
        due("not lost", x.mend(1, 1), NONE);
        x.lose(1, 6);
        due("a local parity", x.mend(1, 6), 3);
        due("value", x.value(1, 6), 9);
        x.lose(1, 8);
        x.lose(1, 9);
        x.lose(1, 7);
        due("from the data", x.mend(1, 9), 6);
        due("value", x.value(1, 9), 5 ^ SlowStore.product(12, 4));
        due("from the data", x.mend(1, 8), 6);
        due("value", x.value(1, 8), 5 ^ SlowStore.product(12, 2));
        due("total(7)", x.total(7), 4);
        due("total(8)", x.total(8), 2);
        due("the queue", x.waiting(0), 107);
        due("UNKNOWN", x.mend(4, 0), UNKNOWN);
        due("UNKNOWN", x.mend(-1, 0), UNKNOWN);
        due("UNKNOWN", x.mend(0, 10), UNKNOWN);
        due("UNKNOWN", x.mend(0, -1), UNKNOWN);
        LocalMenders y = new LocalMenders();
        y.alter(0, 0, 7);
        y.lose(0, 1);
        due("mend a changed group", y.mend(0, 1), 3);
        due("the sum", y.value(0, 1), 7);
        due("undo", y.undo(), 2);
        due("lost again", y.lost(0), 2);
        due("total(6)", y.total(6), 0);
    }

    private static void mendFromStripe() {
        LocalMenders x = new LocalMenders();
        x.write(0, 0, 3);
        x.write(0, 1, 10);
        x.write(0, 5, 6);
        loseAll(x, 0, 1, 8);
        // two lost cells with the local and the second global check
        due("from the stripe", x.mend(0, 0), 7);
        due("value", x.value(0, 0), 3);
        for (int node = 0; node < 10; node++) {
            due("load " + node, x.load(node), node == 0 || node == 1 || node == 8 ? 0 : 1);
        }
        due("total(7)", x.total(7), 1);
        due("total(8)", x.total(8), 0);
        due("then the other one in its group", x.mend(0, 1), 3);
        due("value", x.value(0, 1), 10);
        due("and the parity from the data", x.mend(0, 8), 6);
        loseAll(x, 0, 1, 2, 6);
        String before = look(x);
        int states = x.total(10);
        for (int cell : new int[] {0, 1, 2, 6}) {
            due("four of one group", x.mend(0, cell), NOT_POSSIBLE);
        }
        due("total(10)", x.total(10), states);
        same("after errors", look(x), before);
        LocalMenders y = new LocalMenders();
        y.alter(0, 4, 1);
        loseAll(y, 0, 1);
        due("a changed cell elsewhere", y.mend(0, 0), NOT_POSSIBLE);
        y.lose(0, 4);
        due("the changed cell lost as well", y.mend(0, 0), 7);
        due("value", y.value(0, 0), 0);
    }

    private static void mendNode() {
        LocalMenders x = store(2, 3, 4, 1);
        due("no cell lost", x.mendNode(0), NONE);
        x.write(0, 0, 7);
        x.write(3, 2, 5);
        x.loseNode(0);
        // node 0: cell 0 of stripe 0, then 9, 8 and 7 of the others
        x.lose(0, 4);
        due("mendNode", x.mendNode(0), 3 + 6 + 6 + 3);
        due("value", x.value(0, 0), 7);
        due("value", x.value(3, 7), 0);
        due("waiting", x.waiting(0), 4);
        due("waiting", x.waiting(1), NONE);
        due("total(7)", x.total(7), 4);
        due("total(8)", x.total(8), 2);
        due("total(6)", x.total(6), 18);
        due("NONE", x.mendNode(0), NONE);
        due("UNKNOWN", x.mendNode(-1), UNKNOWN);
        due("UNKNOWN", x.mendNode(10), UNKNOWN);
        x.loseNode(5);
        // in stripe 3 node 5 has the cell 2: with 0, 1 and 6 it cannot be mended
        x.lose(3, 0);
        x.lose(3, 1);
        x.lose(3, 6);
        String before = look(x);
        int states = x.total(10);
        due("one cannot be mended", x.mendNode(5), NOT_POSSIBLE);
        same("after an error", look(x), before);
        due("total(10)", x.total(10), states);
        due("undo", x.undo(), states - 1);
        due("now it can", x.mendNode(5), 8 + 3 + 3 + 7);
        due("undo", x.undo(), states - 1);
        due("all back", x.lost(0), 1 << 4 | 1 << 5);
    }

    private static void work() {
        LocalMenders x = new LocalMenders();
        due("the range first", x.work(0), OUT_OF_RANGE);
        due("the range first", x.work(51), OUT_OF_RANGE);
        due("the range first", x.work(-1), OUT_OF_RANGE);
        due("empty", x.work(1), NONE);
        due("empty", x.work(50), NONE);
        due("total(10)", x.total(10), 0);
        loseAll(x, 0, 1, 2, 6);
        x.lose(1, 5);
        due("one that cannot be mended", x.work(1), 0);
        due("it goes to the end", x.waiting(4), 0);
        due("the next one is first", x.waiting(0), 1);
        due("this is a change", x.total(10), 4);
        due("undo", x.undo(), 3);
        due("the queue is back", x.waiting(0), 0);
        due("five steps", x.work(5), 1);
        due("waiting", x.waiting(0), 0);
        due("waiting", x.waiting(3), 6);
        due("waiting", x.waiting(4), NONE);
        due("fifty steps", x.work(50), 0);
        due("fifty by four", x.waiting(0), 2);
        due("total(6)", x.total(6), 3);
        due("total(7)", x.total(7), 1);
        LocalMenders y = new LocalMenders();
        loseAll(y, 0, 1, 6);
        due("ends with the queue", y.work(50), 3);
        due("reads", y.total(6), 7 + 8 + 3);
        due("total(8)", y.total(8), 1);
        due("total(10)", y.total(10), 4);
        loseAll(y, 0, 1, 6);
        due("two steps", y.work(2), 2);
        due("one is left", y.waiting(0), 6);
        LocalMenders full = store(3, 5, 8, 0);
        for (int node = 0; node < 20; node++) {
            full.loseNode(node);
        }
        due("all cells are lost", full.total(5), 160);
        due("none can be mended", full.work(3), 0);
        due("the fourth is first", full.waiting(0), 300);
        due("the third is last", full.waiting(159), 200);
    }

    private static void scrub() {
        LocalMenders x = new LocalMenders();
        due("nothing to do", x.scrub(), NONE);
        due("total(10)", x.total(10), 0);
        x.write(0, 3, 9);
        x.alter(0, 3, 4);
        x.alter(1, 7, 2);
        x.alter(2, 9, 1);
        x.alter(3, 0, 5);
        x.alter(3, 4, 5);
        due("three of four", x.scrub(), 3);
        due("value", x.value(0, 3), 9);
        due("value", x.value(1, 7), 0);
        due("value", x.value(2, 9), 0);
        due("two changed cells stay", x.value(3, 0), 5);
        due("no reads", x.total(6), 0);
        due("no load", x.busiest(), NONE);
        due("again", x.scrub(), NONE);
        due("total(10)", x.total(10), 4);
        due("undo", x.undo(), 3);
        due("value", x.value(0, 3), 4);
        x.lose(0, 8);
        due("not with a lost cell", x.scrub(), 2);
        due("value", x.value(0, 3), 4);
        for (int cell = 0; cell < 20; cell++) {
            LocalMenders y = store(3, 5, 2, 0);
            y.write(1, 7, 6);
            int old = y.value(1, cell);
            y.alter(1, cell, old ^ 11);
            due("culprit", y.culprit(1), cell);
            due("scrub", y.scrub(), 1);
            due("value", y.value(1, cell), old);
        }
    }

    private static void type() {
        LocalMenders x = new LocalMenders();
        for (int length = 1; length <= 60; length++) {
            due("type", x.type((char) (length * 1000)), length);
        }
        due("the 61st", x.type('a'), FULL);
        due("total(11)", x.total(11), 60);
        due("total(10)", x.total(10), 0);
        due("perform", x.perform(), -100);
        x.clearText();
        due("again", x.type('n'), 1);
        due("again", x.type('0'), 2);
        due("perform", x.perform(), 1);
        due("lost", x.lost(0), 1);
    }

    private static void clearText() {
        LocalMenders x = new LocalMenders();
        due("empty", x.clearText(), 0);
        enter(x, "n0;n");
        due("four", x.clearText(), 4);
        due("then", x.total(11), 0);
        due("then", x.clearText(), 0);
        due("total(10)", x.total(10), 0);
        enter(x, "n0");
        x.lose(0, 1);
        x.keep();
        x.undo();
        x.restore();
        due("undo and restore leave the text", x.clearText(), 2);
        due("the empty text", x.perform(), -100);
    }

    private static void perform() {
        LocalMenders x = new LocalMenders();
        enter(x, "w0.5=12;w3.0=1;n4;x1.0;m1.0");
        due("five orders", x.perform(), 5);
        due("one change", x.total(10), 1);
        due("the text stays", x.total(11), 27);
        due("write", x.value(0, 5), 12);
        due("write", x.value(3, 0), 1);
        due("loseNode", x.lost(0), 1 << 4);
        due("loseNode", x.lost(3), 1 << 1);
        due("mend", x.lost(1), 1 << 3);
        due("total(7)", x.total(7), 1);
        due("total(6)", x.total(6), 3);
        due("undo", x.undo(), 0);
        due("value", x.value(0, 5), 0);
        due("total(5)", x.total(5), 0);
        LocalMenders y = new LocalMenders();
        enter(y, "w0.0=0;m0.0;w1.1=0");
        due("only NONE", y.perform(), 3);
        due("is a change", y.total(10), 1);
        enter(y, "n9;n9;x0.9");
        due("NONE among others", y.perform(), 3);
        due("total(5)", y.total(5), 4);
        enter(y, "n0;n0;n0;n0;n0;n0;n0;n0;n0;n0;n0;n0;n0;n0;n0;n0;n0;n0;n0;n9");
        due("twenty orders", y.perform(), 20);
        due("full", y.clearText(), 59);
        LocalMenders z = store(4, 2, 1, 0);
        enter(z, "w0.7=15;x0.13;n10");
        due("two digits", z.perform(), 3);
        due("lost", z.lost(0), 1 << 13 | 1 << 10);
    }

    private static void faults() {
        performs("", -100);
        String[] texts = {"a", "W", ";", "0", " n0", "w", "w.", "wa", "w0", "w01", "w0=", "w0.", "w0.a", "w0.5", "w0.5.", "w0.5;", "w0.50",
            "w0.505", "w0.05", "w0.0", "w0.5=", "w0.5=;", "w0.5=a", "w0.5=100", "w0.5=05", "w0.5=1;", "w0.5=1 ", "x", "x0", "x0.", "x0.00",
            "x0.123", "x0.1=", "x10.1", "n", "n;", "n0;", "n00", "n01", "n100", "n5.", "n5=", "nn", "m", "mm", "m0", "m0,1", "m0.1=1",
            "m0.1;;", "m0.1;a", "n1 ;n2", "n1;n2;x0.1;w0.0=1;w", "n\u0663", "n\u00b2", "\u00f7", "w1.1=1w"};
        int[] places = {0, 0, 0, 0, 0, 1, 1, 1, 2, 2, 2, 3, 3, 4, 4, 4, 5,
            5, 4, 4, 5, 5, 5, 7, 6, 7, 6, 1, 2, 3, 4,
            5, 4, 2, 1, 1, 3, 2, 2, 3, 2, 2, 1, 1, 1, 2, 2, 4,
            5, 5, 2, 19, 1, 1, 0, 6};
        due("as many places as texts", places.length, texts.length);
        for (int k = 0; k < texts.length; k++) {
            performs(texts[k], -100 - places[k]);
            due("the slow store's fault of " + texts[k], SlowStore.fault(texts[k]), places[k]);
        }
        LocalMenders x = new LocalMenders();
        enter(x, "n0;n1x");
        due("a fault", x.perform(), -105);
        due("nothing is done", x.total(5), 0);
        due("nothing is recorded", x.total(10), 0);
        enter(x, "n0;n0;n0;n0;n0;n0;n0;n0;n0;n0;n0;n0;n0;n0;n0;n0;n0;n0;n0;n0;");
        due("a full text that ends too early", x.perform(), -160);
    }

    private static void performErrors() {
        String[] texts = {"x0.0;n10", "x0.0;x4.0", "x0.0;x0.10", "x0.0;m9.0", "x0.0;w1.6=1", "x0.0;w1.5=16", "x0.0;w0.5=16", "x0.0;w0.6=16",
            "x0.0;w0.5=1", "x0.0;w0.5=0", "n99;w1.1=99", "w1.1=99;n99", "x0.0;x0.1;x0.2;x0.6;m0.0"};
        int[] errors = {UNKNOWN, UNKNOWN, UNKNOWN, UNKNOWN, UNKNOWN, OUT_OF_RANGE, OUT_OF_RANGE, UNKNOWN,
            NOT_POSSIBLE, NOT_POSSIBLE, UNKNOWN, OUT_OF_RANGE, NOT_POSSIBLE};
        for (int k = 0; k < texts.length; k++) {
            LocalMenders x = new LocalMenders();
            x.write(2, 2, 2);
            x.lose(2, 9);
            String before = look(x);
            enter(x, texts[k]);
            due("perform of " + texts[k], x.perform(), errors[k]);
            same("after " + texts[k], look(x), before);
            due("total(10)", x.total(10), 2);
            due("total(11)", x.total(11), texts[k].length());
        }
    }

    private static void undo() {
        LocalMenders x = new LocalMenders();
        due("nothing", x.undo(), NONE);
        for (int value = 1; value <= 6; value++) {
            x.write(0, 0, value);
            due("total(10)", x.total(10), Math.min(value, 4));
        }
        x.keep();
        x.type('n');
        for (int left = 3; left >= 0; left--) {
            due("undo", x.undo(), left);
            due("value", x.value(0, 0), left + 2);
            due("total(10)", x.total(10), left);
        }
        due("the oldest ones are gone", x.undo(), NONE);
        due("value", x.value(0, 0), 2);
        due("the text stays", x.total(11), 1);
        due("the snapshot stays", x.restore(), 0);
        due("value", x.value(0, 0), 6);
        due("restore is a change", x.undo(), 0);
        due("value", x.value(0, 0), 2);
        LocalMenders y = new LocalMenders();
        String before = look(y);
        y.loseNode(3);
        y.mendNode(3);
        y.work(2);
        y.setLayout(4, 3, 8, 5);
        due("four of another layout", y.survives(0b0001000111), 1);
        due("work of an empty queue is none", y.undo(), 2);
        due("undo", y.undo(), 1);
        due("undo", y.undo(), 0);
        same("all undone", look(y), before);
        due("four of a group", y.survives(0b0001000111), 0);
        y.alter(0, 5, 1);
        due("failing", y.failing(0), 2 | 4 | 8);
        due("undo", y.undo(), 0);
        due("nothing left", y.undo(), NONE);
    }

    private static void keep() {
        LocalMenders x = new LocalMenders();
        due("keep", x.keep(), 0);
        due("is no change", x.total(10), 0);
        x.loseNode(4);
        due("keep", x.keep(), 4);
        x.lose(0, 0);
        due("restore", x.restore(), 4);
        due("the later one", x.lost(0), 1 << 4);
        due("keep", x.keep(), 4);
        due("total(10)", x.total(10), 3);
    }

    private static void restore() {
        LocalMenders x = new LocalMenders();
        due("no snapshot", x.restore(), NONE);
        due("total(10)", x.total(10), 0);
        x.write(3, 1, 8);
        x.lose(3, 1);
        x.lose(2, 0);
        x.mend(2, 0);
        String kept = look(x);
        x.keep();
        due("setLayout", x.setLayout(1, 2, 1, 0), 5);
        x.write(0, 0, 1);
        x.type('q');
        String then = look(x);
        due("restore", x.restore(), 1);
        same("after restore", look(x), kept);
        due("the text stays", x.total(11), 1);
        due("total(10)", x.total(10), 4);
        due("restore again", x.restore(), 1);
        same("it stays", look(x), kept);
        due("undo", x.undo(), 3);
        due("undo", x.undo(), 2);
        same("before it", look(x), then);
        x.mend(0, 0);
        due("restore", x.restore(), 1);
        x.mend(3, 1);
        due("the snapshot is its own", x.restore(), 1);
        same("again", look(x), kept);
    }

    private static void value() {
        LocalMenders x = new LocalMenders();
        x.write(3, 5, 11);
        due("value", x.value(3, 5), 11);
        due("value", x.value(3, 7), 11);
        due("value", x.value(2, 5), 0);
        x.lose(3, 5);
        due("lost", x.value(3, 5), NONE);
        x.mend(3, 5);
        due("mended", x.value(3, 5), 11);
        int[][] wrongOnes = {{-1, 0}, {4, 0}, {0, -1}, {0, 10}, {Integer.MIN_VALUE, 0}, {0, Integer.MAX_VALUE}};
        for (int[] a : wrongOnes) {
            due("value", x.value(a[0], a[1]), UNKNOWN);
        }
    }

    private static void node() {
        for (int shift = 0; shift <= 5; shift++) {
            LocalMenders x = store(1, 2, 8, shift);
            LocalMenders y = store(3, 5, 8, shift);
            for (int stripe = 0; stripe < 8; stripe++) {
                for (int cell = 0; cell < 20; cell++) {
                    due("node of 5", x.node(stripe, cell), cell < 5 ? (cell + stripe * shift) % 5 : UNKNOWN);
                    due("node of 20", y.node(stripe, cell), (cell + stripe * shift) % 20);
                }
            }
            due("node", x.node(8, 0), UNKNOWN);
            due("node", x.node(-1, 0), UNKNOWN);
            due("node", y.node(0, 20), UNKNOWN);
            due("node", y.node(0, -1), UNKNOWN);
            y.lose(0, 0);
            due("a lost cell has its node", y.node(0, 0), 0);
        }
    }

    private static void load() {
        LocalMenders x = new LocalMenders();
        due("load", x.load(0), 0);
        due("load", x.load(9), 0);
        due("load", x.load(10), UNKNOWN);
        due("load", x.load(-1), UNKNOWN);
        x.lose(2, 4);
        x.mend(2, 4);
        x.lose(3, 4);
        x.mend(3, 4);
        // stripe 2 reads the cells 3, 5 and 7, stripe 3 too: nodes 5, 7, 9 and 6, 8, 0
        int[] loads = {1, 0, 0, 0, 0, 1, 1, 1, 1, 1};
        for (int node = 0; node < 10; node++) {
            due("load " + node, x.load(node), loads[node]);
        }
        x.value(2, 3);
        x.mended(2, 3);
        x.failing(2);
        due("only mending reads", x.load(5), 1);
        x.setLayout(2, 3, 4, 1);
        due("a new layout", x.load(5), 0);
        due("reads go on", x.total(6), 6);
        x.undo();
        due("undone", x.load(5), 1);
    }

    private static void lost() {
        LocalMenders x = store(3, 5, 8, 1);
        due("none", x.lost(7), 0);
        x.lose(7, 19);
        x.lose(7, 0);
        due("two", x.lost(7), 1 << 19 | 1);
        due("elsewhere", x.lost(6), 0);
        x.mend(7, 0);
        due("one", x.lost(7), 1 << 19);
        due("UNKNOWN", x.lost(8), UNKNOWN);
        due("UNKNOWN", x.lost(-1), UNKNOWN);
    }

    private static void waiting() {
        LocalMenders x = store(3, 5, 8, 0);
        due("none", x.waiting(0), NONE);
        due("negative", x.waiting(-1), OUT_OF_RANGE);
        due("negative", x.waiting(Integer.MIN_VALUE), OUT_OF_RANGE);
        due("far", x.waiting(Integer.MAX_VALUE), NONE);
        x.lose(7, 19);
        x.lose(0, 3);
        x.lose(4, 10);
        due("first", x.waiting(0), 719);
        due("second", x.waiting(1), 3);
        due("third", x.waiting(2), 410);
        due("fourth", x.waiting(3), NONE);
        x.mend(0, 3);
        due("the queue closes up", x.waiting(1), 410);
        x.lose(0, 3);
        due("to its end", x.waiting(2), 3);
        x.mend(0, 3);
        due("the last one leaves", x.waiting(2), NONE);
        due("negative", x.waiting(-1), OUT_OF_RANGE);
    }

    private static void failing() {
        LocalMenders x = store(3, 5, 8, 0);
        due("none", x.failing(7), 0);
        for (int cell = 0; cell < 20; cell++) {
            int want = cell < 15 ? 1 << cell / 5 | 8 | 16 : 1 << cell - 15;
            x.alter(7, cell, 9);
            due("failing " + cell, x.failing(7), want);
            x.alter(7, cell, 0);
        }
        x.alter(0, 0, 1);
        x.alter(0, 1, 1);
        due("two of a group", x.failing(0), 8 | 16);
        due("elsewhere", x.failing(1), 0);
        x.lose(0, 19);
        due("lost", x.failing(0), NOT_POSSIBLE);
        due("UNKNOWN", x.failing(8), UNKNOWN);
        due("UNKNOWN", x.failing(-1), UNKNOWN);
        LocalMenders y = store(1, 2, 1, 0);
        y.alter(0, 4, 3);
        due("the second global check", y.failing(0), 4);
    }

    private static void total() {
        LocalMenders x = store(4, 3, 8, 5);
        x.lose(0, 0);
        x.lose(0, 13);
        x.lose(0, 17);
        x.mend(0, 0);
        x.mend(0, 17);
        x.type('a');
        x.type('b');
        int[] totals = {4, 3, 8, 5, 18, 1, 15, 2, 1, 3, 4, 2};
        for (int what = 0; what < totals.length; what++) {
            due("total(" + what + ")", x.total(what), totals[what]);
        }
        due("total(-1)", x.total(-1), OUT_OF_RANGE);
        due("total(12)", x.total(12), OUT_OF_RANGE);
        due("total(MIN)", x.total(Integer.MIN_VALUE), OUT_OF_RANGE);
        x.undo();
        int[] before = {4, 3, 8, 5, 18, 2, 3, 1, 1, 3, 3, 2};
        for (int what = 0; what < before.length; what++) {
            due("total(" + what + ") after undo", x.total(what), before[what]);
        }
    }

    private static void way() {
        LocalMenders x = new LocalMenders();
        due("not lost", x.way(0, 0), NONE);
        int[][] wrongOnes = {{-1, 0}, {4, 0}, {0, -1}, {0, 10}};
        for (int[] a : wrongOnes) {
            due("way", x.way(a[0], a[1]), UNKNOWN);
        }
        loseAll(x, 3, 8, 9);
        due("a data cell alone in its group", x.way(0, 3), 1);
        due("a global parity without a data cell", x.way(0, 8), 3);
        x.mend(0, 3);
        due("a global parity with all data", x.way(0, 8), 2);
        loseAll(x, 6, 7);
        due("whatever the local parities are", x.way(0, 9), 2);
        due("a local parity alone", x.way(0, 7), 1);
        x.lose(0, 5);
        due("four checks are gone", x.way(0, 7), 0);
        x.mend(0, 6);
        due("nothing tells", x.way(0, 5), 0);
        LocalMenders y = new LocalMenders();
        loseAll(y, 0, 9);
        due("a global parity and a data cell", y.way(0, 9), 3);
        due("the data cell", y.way(0, 0), 1);
        LocalMenders z = new LocalMenders();
        loseAll(z, 0, 1, 2, 6);
        z.lose(0, 8);
        z.lose(0, 5);
        due("one that is determined beside others that are not", z.way(0, 5), 1);
        z.lose(0, 7);
        due("two of its group, and no global check is free", z.way(0, 5), 0);
        LocalMenders w = store(1, 2, 1, 0);
        w.alter(0, 4, 1);
        loseAll(w, 0);
        due("within the group, though a check fails", w.way(0, 0), 1);
        w.lose(0, 1);
        due("no choice of values", w.way(0, 1), 0);
        w.lose(0, 3);
        due("with that check alone", w.way(0, 1), 3);
        due("nothing was read", w.total(6), 0);
    }

    private static void reads() {
        LocalMenders x = store(3, 5, 2, 0);
        due("not lost", x.reads(0, 0), NONE);
        int[][] wrongOnes = {{-1, 0}, {2, 0}, {0, -1}, {0, 20}};
        for (int[] a : wrongOnes) {
            due("reads", x.reads(a[0], a[1]), UNKNOWN);
        }
        loseAll(x, 18, 16);
        due("within the group", x.reads(0, 16), 5);
        due("from the data", x.reads(0, 18), 15);
        x.lose(0, 5);
        due("from the stripe", x.reads(0, 5), 17);
        due("from the stripe", x.reads(0, 18), 17);
        loseAll(x, 6, 7, 0);
        due("not at all", x.reads(0, 5), NOT_POSSIBLE);
        due("its own group", x.reads(0, 0), 5);
        due("nothing was read", x.total(6), 0);
        due("nothing changed", x.total(5), 6);
        due("as many as mend reads", x.mend(0, 0), 5);
    }

    private static void mended() {
        LocalMenders x = new LocalMenders();
        due("not lost", x.mended(0, 0), NONE);
        int[][] wrongOnes = {{-1, 0}, {4, 0}, {0, -1}, {0, 10}};
        for (int[] a : wrongOnes) {
            due("mended", x.mended(a[0], a[1]), UNKNOWN);
        }
        x.write(0, 1, 13);
        x.write(0, 4, 6);
        int parity = x.value(0, 8);
        loseAll(x, 1, 7);
        due("within the group", x.mended(0, 1), 13);
        due("within the group", x.mended(0, 7), 6);
        x.lose(0, 8);
        due("from the stripe", x.mended(0, 8), parity);
        x.mend(0, 1);
        due("from the data", x.mended(0, 8), parity);
        x.alter(0, 0, 1);
        due("what the check demands then", x.mended(0, 8), parity ^ 1);
        loseAll(x, 3, 4, 5);
        due("not at all", x.mended(0, 3), NOT_POSSIBLE);
        due("still lost", x.value(0, 8), NONE);
    }

    /** Each set of up to three lost cells of some stripes, with some of them changed: all values of the lost cells are tried. */
    private static void mendedByTrying() {
        int[][] layouts = {{1, 2}, {2, 2}, {2, 3}, {1, 6}};
        for (int[] layout : layouts) {
            int cells = layout[0] * layout[1] + layout[0] + 2;
            for (int set = 1; set < 1 << cells; set++) {
                if (Integer.bitCount(set) <= 3) {
                    tryStripe(layout[0], layout[1], set, set % 3 == 0 ? set % cells : -1);
                }
            }
        }
    }

    private static void tryStripe(int groups, int size, int set, int changed) {
        LocalMenders x = store(groups, size, 1, 0);
        for (int cell = 0; cell < groups * size; cell++) {
            x.write(0, cell, (7 * cell + set) % 16);
        }
        if (changed >= 0) {
            x.alter(0, changed, x.value(0, changed) ^ 9);
        }
        Integer[] row = new Integer[x.total(4)];
        for (int cell = 0; cell < row.length; cell++) {
            if ((set >> cell & 1) == 1) {
                x.lose(0, cell);
            } else {
                row[cell] = x.value(0, cell);
            }
        }
        for (int cell = 0; cell < row.length; cell++) {
            int way = x.way(0, cell);
            if (way == 0 || way == 3) {
                Integer value = SlowStore.tried(groups, size, row, cell);
                due("mended of " + groups + " " + size + " " + set + " " + changed + " " + cell, x.mended(0, cell), value == null ? NOT_POSSIBLE : value);
            }
        }
    }

    private static void culprit() {
        LocalMenders x = store(3, 5, 3, 1);
        due("consistent", x.culprit(0), NONE);
        for (int cell = 0; cell < 20; cell++) {
            for (int by = 1; by < 16; by++) {
                x.alter(2, cell, by);
                due("culprit", x.culprit(2), cell);
                x.alter(2, cell, 0);
            }
        }
        x.alter(1, 0, 3);
        x.alter(1, 19, 3);
        due("two changed", x.culprit(1), NONE);
        x.alter(1, 19, 0);
        due("one changed", x.culprit(1), 0);
        x.lose(1, 5);
        due("lost", x.culprit(1), NOT_POSSIBLE);
        due("consistent but lost", x.lose(0, 0), 2);
        due("lost", x.culprit(0), NOT_POSSIBLE);
        due("UNKNOWN", x.culprit(3), UNKNOWN);
        due("UNKNOWN", x.culprit(-1), UNKNOWN);
        LocalMenders y = new LocalMenders();
        // 3 in the local parity, 3 in the first and 3 in the second global one: as if cell 0 were changed
        y.alter(0, 6, 3);
        y.alter(0, 8, 3);
        y.alter(0, 9, 3);
        due("the only cell that would mend it", y.culprit(0), 0);
        y.alter(0, 9, 2);
        due("no cell would", y.culprit(0), NONE);
        y.alter(0, 6, 0);
        due("no cell would", y.culprit(0), NONE);
        y.alter(0, 7, 3);
        y.alter(0, 9, SlowStore.product(3, 13));
        y.alter(0, 8, SlowStore.product(3, 14));
        due("cell 11 of another layout", y.culprit(0), NONE);
    }

    private static void survives() {
        LocalMenders x = new LocalMenders();
        due("empty", x.survives(0), 1);
        due("negative", x.survives(-1), OUT_OF_RANGE);
        due("negative", x.survives(Integer.MIN_VALUE), OUT_OF_RANGE);
        due("bit 10", x.survives(1 << 10), OUT_OF_RANGE);
        due("bit 10 with others", x.survives(1 << 10 | 1), OUT_OF_RANGE);
        due("bit 30", x.survives(1 << 30), OUT_OF_RANGE);
        due("all cells", x.survives(1023), 0);
        due("three of a group", x.survives(0b0000000111), 1);
        due("four of a group", x.survives(0b0001000111), 0);
        due("two, and two global ones", x.survives(0b1100000011), 0);
        due("one of each group, and two global ones", x.survives(0b1100001001), 1);
        // 2^0 + 2^1 is 3, 2^3 + 2^4 is 11: two of each group
        due("two of each group", x.survives(0b0000011011), 1);
        x.lose(0, 0);
        x.alter(1, 0, 5);
        due("whatever is lost now", x.survives(0b0000000111), 1);
        int[][] layouts = {{1, 2}, {1, 5}, {2, 2}, {2, 3}, {3, 2}, {4, 2}};
        for (int[] layout : layouts) {
            LocalMenders y = store(layout[0], layout[1], 1, 0);
            for (int set = 0; set < 1 << y.total(4); set++) {
                due("survives " + set, y.survives(set), SlowStore.survive(layout[0], layout[1], set) ? 1 : 0);
            }
        }
        LocalMenders z = store(3, 5, 1, 0);
        due("bit 19", z.survives(1 << 19), 1);
        due("bit 20", z.survives(1 << 20), OUT_OF_RANGE);
    }

    private static void fatalSets() {
        LocalMenders x = new LocalMenders();
        due("0", x.fatalSets(0), OUT_OF_RANGE);
        due("5", x.fatalSets(5), OUT_OF_RANGE);
        due("-1", x.fatalSets(-1), OUT_OF_RANGE);
        for (int groups = 1; groups <= 4; groups++) {
            for (int size = 2; size <= 6 && groups * size <= 15; size++) {
                LocalMenders y = store(groups, size, 1, 0);
                for (int count = 1; count <= 4; count++) {
                    due("fatalSets of " + groups + " " + size + " " + count, y.fatalSets(count), fatal(groups, size, count));
                }
            }
        }
        // four of five cells with three checks: always
        due("four of five", store(1, 2, 1, 0).fatalSets(4), 5);
        due("three of five", store(1, 2, 1, 0).fatalSets(3), 0);
    }

    private static int fatal(int groups, int size, int count) {
        int sets = 0;
        for (int set = 0; set < 1 << groups * size + groups + 2; set++) {
            if (Integer.bitCount(set) == count && !SlowStore.survive(groups, size, set)) {
                sets++;
            }
        }
        return sets;
    }

    private static void fatalNodes() {
        due("four of five", store(1, 2, 1, 0).fatalNodes(), 0b1111);
        due("turned", store(1, 2, 8, 1).fatalNodes(), 0b1111);
        int turned = 0;
        for (int groups = 1; groups <= 4; groups++) {
            for (int size = 2; size <= 6 && groups * size <= 15; size++) {
                for (int shift = 0; shift <= 5; shift++) {
                    int alone = store(groups, size, 1, shift).fatalNodes();
                    int all = store(groups, size, 8, shift).fatalNodes();
                    due("the fewest nodes", Integer.bitCount(alone), 4);
                    due("not greater", all <= alone ? 1 : 0, 1);
                    due("no shift, no turn", shift > 0 || all == alone ? 1 : 0, 1);
                    turned += all < alone ? 1 : 0;
                    due("fatalNodes", all, slowNodes(groups, size, 8, shift));
                }
            }
        }
        due("some are found in a later stripe alone", turned > 0 ? 1 : 0, 1);
        LocalMenders x = new LocalMenders();
        int before = x.fatalNodes();
        x.lose(0, 0);
        x.lose(1, 1);
        due("whatever is lost now", x.fatalNodes(), before);
    }

    private static int slowNodes(int groups, int size, int stripes, int shift) {
        SlowStore slow = new SlowStore();
        slow.setLayout(groups, size, stripes, shift);
        return slow.fatalNodes();
    }

    private static void busiest() {
        LocalMenders x = new LocalMenders();
        due("nothing read", x.busiest(), NONE);
        x.lose(0, 8);
        due("nothing read", x.busiest(), NONE);
        x.mend(0, 8);
        due("the least of six", x.busiest(), 0);
        x.lose(0, 0);
        x.mend(0, 0);
        due("read twice", x.busiest(), 1);
        x.lose(3, 4);
        x.mend(3, 4);
        x.lose(3, 4);
        x.mend(3, 4);
        due("a tie goes to the least", x.busiest(), 0);
        x.undo();
        x.undo();
        due("undone", x.busiest(), 0);
        x.setLayout(2, 3, 4, 1);
        due("a new layout", x.busiest(), NONE);
        LocalMenders y = store(3, 5, 2, 0);
        for (int k = 0; k < 3; k++) {
            y.lose(1, 18);
            y.lose(1, 14);
            y.mend(1, 18);
            y.mend(1, 14);
        }
        due("the last of some", y.load(19), 3);
        due("more in the third group", y.load(17), 6);
        due("busiest", y.busiest(), 10);
    }
}
