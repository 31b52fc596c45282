import java.util.ArrayList;
import java.util.List;

/**
 * Calls that lead a new object to a state. It can be told as often as objects are wanted there, so that an object on which
 * one more call was made can be compared with one on which it wasn't, with all that its history, its snapshot and its text
 * hold. No object gets more calls than the document allows.
 */
final class Story {
    interface Call {
        int on(LocalMenders x);
    }

    private static final int MOST_STATES = 4;

    private final List<Call> calls = new ArrayList<>();

    static Story fresh() {
        return new Story();
    }

    static Story layout(int groups, int size, int stripes, int shift) {
        return fresh().and(x -> x.setLayout(groups, size, stripes, shift));
    }

    /**
     * At first's layout: the cell 9 of the stripe 0 is lost, the stripe 1 is whole, 7 and 3 of the stripe 2 are lost, 1 of
     * the stripe 3 is changed. The queue is 207, 203, 9. The history is full; snapshot and text are not empty; all counts
     * are greater than 0, and no two of them are equal but for those of the layout.
     */
    static Story rich() {
        return fresh()
            .and(x -> x.write(0, 4, 9))
            .and(x -> x.lose(1, 2)).and(x -> x.mend(1, 2))
            .and(x -> x.lose(1, 8)).and(x -> x.mend(1, 8))
            .and(LocalMenders::keep)
            .and(x -> x.alter(3, 1, 5))
            .and(x -> x.lose(2, 7)).and(x -> x.lose(2, 3)).and(x -> x.lose(0, 9))
            .typed("w1.1=7;x1.6");
    }

    Story and(Call call) {
        Story longer = new Story();
        longer.calls.addAll(calls);
        longer.calls.add(call);
        return longer;
    }

    Story typed(String text) {
        Story longer = this;
        for (char sign : text.toCharArray()) {
            longer = longer.and(x -> x.type(sign));
        }
        return longer;
    }

    Story losing(int stripe, int... cells) {
        Story longer = this;
        for (int cell : cells) {
            longer = longer.and(x -> x.lose(stripe, cell));
        }
        return longer;
    }

    /** How many calls it takes. */
    int size() {
        return calls.size();
    }

    /** A new object, brought there. */
    LocalMenders told() {
        LocalMenders x = new LocalMenders();
        for (Call call : calls) {
            call.on(x);
        }
        return x;
    }

    /** Here the call answers an error or NONE, and nothing has changed by it. */
    void refuses(String what, Call call, int answer) {
        if (answer >= 0) {
            Sentences.fault(what + ": " + answer + " is neither an error nor NONE");
        }
        leaves(what, call, answer);
    }

    /** Here the call answers so, and nothing has changed by it: neither the state nor history, snapshot and text. */
    void leaves(String what, Call call, int answer) {
        Sentences.due(what, call.on(told()), answer);
        Sentences.same("after " + what, and(call).everything(), everything());
    }

    /** Here the call answers so, and is a change: the state before it is the latest of the history, text and snapshot stay. */
    void changes(String what, Call call, int answer) {
        if (answer < 0) {
            Sentences.fault(what + ": " + answer + " is an error or NONE");
        }
        Sentences.due(what, call.on(told()), answer);
        Story after = and(call);
        int states = Math.min(told().total(10) + 1, MOST_STATES);
        Sentences.due("total(10) after " + what, after.told().total(10), states);
        for (int back = 1; back <= states; back++) {
            Sentences.same(back + " back after " + what, after.back(back).state(), back(back - 1).state());
        }
        Sentences.due("undo when all is undone after " + what, after.back(states).told().undo(), LocalMenders.NONE);
        Sentences.same("restore after " + what, after.snapshot(), snapshot());
        Sentences.same("the text after " + what, after.text(), text());
    }

    /** This story, with so many states undone. */
    Story back(int states) {
        Story shorter = this;
        for (int k = 0; k < states; k++) {
            shorter = shorter.and(LocalMenders::undo);
        }
        return shorter;
    }

    /** All that can be seen of the state: the cells, the counts, and what follows from both of them and the layout. */
    String state() {
        LocalMenders x = told();
        StringBuilder all = new StringBuilder("  totals");
        for (int what = 0; what < 10; what++) {
            all.append(' ').append(x.total(what));
        }
        for (int stripe = 0; stripe < x.total(2); stripe++) {
            all.append("\n  stripe ").append(stripe).append(':');
            for (int cell = 0; cell < x.total(4); cell++) {
                all.append(' ').append(x.value(stripe, cell));
            }
            all.append(", failing ").append(x.failing(stripe)).append(", culprit ").append(x.culprit(stripe));
        }
        all.append("\n  loads");
        for (int node = 0; node < x.total(4); node++) {
            all.append(' ').append(x.load(node));
        }
        all.append("\n  queue");
        for (int place = 0; place < x.total(5); place++) {
            int waiting = x.waiting(place);
            all.append(' ').append(waiting).append(" by ").append(x.way(waiting / 100, waiting % 100));
        }
        all.append("\n  fatal ").append(x.fatalNodes()).append(", busiest ").append(x.busiest());
        return all.append('\n').toString();
    }

    /** The state that restore() brings back, if there is one. */
    private String snapshot() {
        int answer = told().restore();
        return "  restore " + answer + "\n" + (answer == LocalMenders.NONE ? "" : and(LocalMenders::restore).state());
    }

    /** The text as it can be seen: its length, where its fault is, and what its orders do to a store that they suit. */
    private String text() {
        Story elsewhere = and(x -> x.setLayout(2, 3, 4, 1));
        return "  text " + told().total(11) + " " + elsewhere.told().perform() + "\n" + elsewhere.and(LocalMenders::perform).state().replaceAll("totals.*", "");
    }

    /** All that can be seen of the object. */
    String everything() {
        StringBuilder all = new StringBuilder(state());
        int states = told().total(10);
        all.append("  history ").append(states).append('\n');
        for (int back = 1; back <= states + 1; back++) {
            all.append("  undo ").append(back(back - 1).told().undo()).append('\n').append(back(back).state());
        }
        return all.append(snapshot()).append(text()).toString();
    }
}
