import java.util.Random;

/** Long runs of calls, drawn from fixed seeds, on LocalMenders and on SlowStore side by side. */
public final class RandomRunsTest {
    private static final int CALLS = 500;
    private static final String[] NAMES = {"setLayout", "write", "alter", "lose", "loseNode", "mend", "mendNode", "work", "scrub",
        "type", "clearText", "perform", "undo", "keep", "restore", "value", "node", "load", "lost", "waiting", "failing", "total",
        "way", "reads", "mended", "culprit", "survives", "fatalSets", "fatalNodes", "busiest"};
    /** How often each call is drawn, in the same order. */
    private static final int[] SHARES = {1, 30, 8, 25, 3, 35, 8, 6, 8, 0, 2, 8, 6, 3, 3, 3, 3, 3, 3, 3, 6, 3, 10, 8, 8, 8, 8, 1, 1, 3};
    private static final int[] ODD = {-1, -2, 16, 20, 31, 99, 100, Integer.MAX_VALUE, Integer.MIN_VALUE, 1 << 20, 1 << 30};

    private final Random random;
    private final LocalMenders fast = new LocalMenders();
    private final SlowStore slow = new SlowStore();
    private final StringBuilder log = new StringBuilder();
    /** With so many lost cells most losses are drawn again as mending. */
    private int fewLost = 100;
    private int calls = 0;
    private boolean good = true;

    private RandomRunsTest(long seed) {
        random = new Random(seed);
    }

    public static void main(String[] args) {
        int runs = args.length > 0 ? Integer.parseInt(args[0]) : 400;
        int wrong = 0;
        for (int seed = 1; seed <= runs && wrong < 3; seed++) {
            RandomRunsTest run = new RandomRunsTest(seed);
            run.go(seed);
            if (!run.good) {
                wrong++;
                System.out.println("seed " + seed + ":\n" + run.log);
            }
        }
        System.out.println(wrong == 0 ? "RandomRunsTest: all answers are as due" : "RandomRunsTest: answers are not as due");
        if (wrong != 0) {
            System.exit(1);
        }
    }

    private void go(int kind) {
        fewLost = new int[] {100, 0, 2, 4, 8}[kind % 5];
        if (kind % 8 != 0) {
            layOut();
        }
        while (calls < CALLS && good) {
            if (random.nextInt(50) == 0) {
                typeText();
            } else {
                step();
            }
            if (random.nextInt(10) == 0) {
                look();
            }
        }
        look();
    }

    private void layOut() {
        call(0, 1 + random.nextInt(4), 2 + random.nextInt(5), 1 + random.nextInt(8), random.nextInt(6));
    }

    private void step() {
        int sum = 0;
        for (int share : SHARES) {
            sum += share;
        }
        int drawn = random.nextInt(sum);
        int which = 0;
        while (drawn >= SHARES[which]) {
            drawn -= SHARES[which++];
        }
        boolean few = slow.total(5) > fewLost && random.nextInt(5) > 0;
        if (few && (which == 3 || which == 4)) {
            which = random.nextBoolean() ? 5 : 7;
        }
        int first = slow.waiting(random.nextInt(1 + slow.total(5)));
        boolean mends = which == 5 || which >= 22 && which <= 24;
        if (which == 0) {
            layOut();
        } else if (mends && first >= 0 && random.nextInt(3) > 0) {
            call(which, first / 100, first % 100, 0, 0);
        } else if (which == 4 || which == 6 || which == 17) {
            call(which, oneOf(slow.total(4)), 0, 0, 0);
        } else if (which == 7) {
            call(which, oneOf(1 + random.nextInt(51)), 0, 0, 0);
        } else if (which == 19) {
            call(which, oneOf(1 + slow.total(5)), 0, 0, 0);
        } else if (which == 21) {
            call(which, oneOf(13), 0, 0, 0);
        } else if (which == 26) {
            call(which, odd(fewBits(slow.total(4))), 0, 0, 0);
        } else if (which == 27) {
            call(which, oneOf(6), 0, 0, 0);
        } else {
            int stripe = random.nextInt(3) > 0 ? 0 : oneOf(slow.total(2));
            call(which, stripe, oneOf(slow.total(random.nextInt(4) > 0 ? 4 : 1)), oneOf(16), 0);
        }
    }

    private int oneOf(int count) {
        return odd(random.nextInt(Math.max(count, 1)));
    }

    private int odd(int number) {
        return random.nextInt(60) == 0 ? ODD[random.nextInt(ODD.length)] : number;
    }

    private int fewBits(int cells) {
        int set = 0;
        for (int k = random.nextInt(8); k > 0; k--) {
            set |= 1 << random.nextInt(cells);
        }
        return set;
    }

    private void typeText() {
        if (random.nextInt(3) > 0) {
            call(10, 0, 0, 0, 0);
        }
        int orders = 1 + random.nextInt(random.nextInt(8) == 0 ? 12 : 4);
        StringBuilder text = new StringBuilder();
        for (int k = 0; k < orders; k++) {
            text.append(k == 0 && slow.total(11) == 0 ? "" : ";").append(order());
        }
        if (random.nextInt(4) == 0) {
            int place = random.nextInt(text.length());
            char sign = "wxnm.;=0123456789 a\u00e9\u20ac".charAt(random.nextInt(21));
            switch (random.nextInt(3)) {
                case 0: text.setCharAt(place, sign); break;
                case 1: text.insert(place, sign); break;
                default: text.deleteCharAt(place);
            }
        }
        for (int k = 0; k < text.length(); k++) {
            call(9, text.charAt(k), 0, 0, 0);
        }
        call(11, 0, 0, 0, 0);
        look();
    }

    private String order() {
        int stripe = random.nextInt(10) == 0 ? random.nextInt(10) : random.nextInt(slow.total(2));
        int cell = random.nextInt(20) == 0 ? random.nextInt(100) : random.nextInt(slow.total(4));
        int datum = random.nextInt(20) == 0 ? random.nextInt(100) : random.nextInt(slow.total(0) * slow.total(1));
        switch (random.nextInt(5)) {
            case 0: return "x" + stripe + "." + cell;
            case 1: return "m" + stripe + "." + cell;
            case 2: return "n" + cell;
            default: return "w" + stripe + "." + datum + "=" + random.nextInt(random.nextInt(20) == 0 ? 100 : 16);
        }
    }

    private void look() {
        for (int what = 0; what <= 11; what++) {
            same("total(" + what + ")", fast.total(what), slow.total(what));
        }
        for (int stripe = 0; stripe < slow.total(2); stripe++) {
            same("lost(" + stripe + ")", fast.lost(stripe), slow.lost(stripe));
            for (int cell = 0; cell < slow.total(4); cell++) {
                same("value(" + stripe + ", " + cell + ")", fast.value(stripe, cell), slow.value(stripe, cell));
            }
        }
        for (int node = 0; node < slow.total(4); node++) {
            same("load(" + node + ")", fast.load(node), slow.load(node));
        }
        for (int place = 0; place <= slow.total(5); place++) {
            same("waiting(" + place + ")", fast.waiting(place), slow.waiting(place));
        }
    }

    private void same(String what, int got, int due) {
        if (got != due && good) {
            good = false;
            log.append("  ").append(what).append(" answered ").append(got).append(", due is ").append(due).append('\n');
        }
    }

    private void call(int which, int a, int b, int c, int e) {
        if (!good) {
            return;
        }
        calls++;
        int got = callFast(which, a, b, c, e);
        log.append("  ").append(NAMES[which]).append(' ').append(a).append(' ').append(b).append(' ').append(c).append(' ').append(e)
            .append(" -> ").append(got).append('\n');
        same(NAMES[which], got, callSlow(which, a, b, c, e));
    }

    private int callFast(int which, int a, int b, int c, int e) {
        switch (which) {
            case 0: return fast.setLayout(a, b, c, e);
            case 1: return fast.write(a, b, c);
            case 2: return fast.alter(a, b, c);
            case 3: return fast.lose(a, b);
            case 4: return fast.loseNode(a);
            case 5: return fast.mend(a, b);
            case 6: return fast.mendNode(a);
            case 7: return fast.work(a);
            case 8: return fast.scrub();
            case 9: return fast.type((char) a);
            case 10: return fast.clearText();
            case 11: return fast.perform();
            case 12: return fast.undo();
            case 13: return fast.keep();
            case 14: return fast.restore();
            case 15: return fast.value(a, b);
            case 16: return fast.node(a, b);
            case 17: return fast.load(a);
            case 18: return fast.lost(a);
            case 19: return fast.waiting(a);
            case 20: return fast.failing(a);
            case 21: return fast.total(a);
            case 22: return fast.way(a, b);
            case 23: return fast.reads(a, b);
            case 24: return fast.mended(a, b);
            case 25: return fast.culprit(a);
            case 26: return fast.survives(a);
            case 27: return fast.fatalSets(a);
            case 28: return fast.fatalNodes();
            default: return fast.busiest();
        }
    }

    private int callSlow(int which, int a, int b, int c, int e) {
        switch (which) {
            case 0: return slow.setLayout(a, b, c, e);
            case 1: return slow.write(a, b, c);
            case 2: return slow.alter(a, b, c);
            case 3: return slow.lose(a, b);
            case 4: return slow.loseNode(a);
            case 5: return slow.mend(a, b);
            case 6: return slow.mendNode(a);
            case 7: return slow.work(a);
            case 8: return slow.scrub();
            case 9: return slow.type((char) a);
            case 10: return slow.clearText();
            case 11: return slow.perform();
            case 12: return slow.undo();
            case 13: return slow.keep();
            case 14: return slow.restore();
            case 15: return slow.value(a, b);
            case 16: return slow.node(a, b);
            case 17: return slow.load(a);
            case 18: return slow.lost(a);
            case 19: return slow.waiting(a);
            case 20: return slow.failing(a);
            case 21: return slow.total(a);
            case 22: return slow.way(a, b);
            case 23: return slow.reads(a, b);
            case 24: return slow.mended(a, b);
            case 25: return slow.culprit(a);
            case 26: return slow.survives(a);
            case 27: return slow.fatalSets(a);
            case 28: return slow.fatalNodes();
            default: return slow.busiest();
        }
    }
}
