import java.lang.reflect.InvocationTargetException;
import java.lang.reflect.Method;
import java.util.ArrayList;
import java.util.Comparator;
import java.util.List;

/** What the tests of single sentences have in common. Each static method of theirs that bears a Sentence is a test. */
abstract class Sentences {
    static final int UNKNOWN = -1, OUT_OF_RANGE = -2, FULL = -3, NOT_POSSIBLE = -4, NONE = -5;
    static final int LEAST = Integer.MIN_VALUE, GREATEST = Integer.MAX_VALUE;

    private static String sentence = "";
    private static int wrong = 0;

    /** A call with one number that is still open. */
    interface Open {
        int on(LocalMenders x, int number);
    }

    /** All tests of a class, in the order of their names. */
    static List<Method> testsOf(Class<?> tests) {
        List<Method> found = new ArrayList<>();
        for (Method method : tests.getDeclaredMethods()) {
            if (method.isAnnotationPresent(Sentence.class)) {
                found.add(method);
            }
        }
        found.sort(Comparator.comparing(Method::getName));
        return found;
    }

    static void run(Class<?> tests) throws IllegalAccessException {
        List<Method> found = testsOf(tests);
        int failed = 0;
        for (Method test : found) {
            Sentence words = test.getAnnotation(Sentence.class);
            sentence = words.at() + ", \"" + String.join("\", \"", words.says()) + "\" (" + test.getName() + ")";
            int before = wrong;
            try {
                test.invoke(null);
            } catch (InvocationTargetException thrown) {
                fault("threw " + thrown.getCause());
            }
            failed += wrong > before ? 1 : 0;
        }
        System.out.println(tests.getName() + ": " + found.size() + " tests, " + failed + " failed");
        if (failed > 0 || found.isEmpty()) {
            System.exit(1);
        }
    }

    static void fault(String what) {
        wrong++;
        System.out.println(sentence + ": " + what);
    }

    static void due(String what, int got, int want) {
        if (got != want) {
            fault(what + " answered " + got + ", due is " + want);
        }
    }

    static void same(String what, String got, String want) {
        if (!got.equals(want)) {
            fault(what + ": there is\n" + got + "where due is\n" + want);
        }
    }

    /** A new object with this layout. */
    static LocalMenders store(int groups, int size, int stripes, int shift) {
        LocalMenders x = new LocalMenders();
        due("setLayout", x.setLayout(groups, size, stripes, shift), groups * size + groups + 2);
        return x;
    }

    static void loseAll(LocalMenders x, int stripe, int... cells) {
        for (int cell : cells) {
            x.lose(stripe, cell);
        }
    }

    static void type(LocalMenders x, String text) {
        for (char sign : text.toCharArray()) {
            x.type(sign);
        }
    }

    /** Performs a text on a new object. */
    static int performed(String text) {
        LocalMenders x = new LocalMenders();
        type(x, text);
        return x.perform();
    }

    static void queueIs(String what, LocalMenders x, int... queue) {
        for (int place = 0; place < queue.length; place++) {
            due(what + ": waiting(" + place + ")", x.waiting(place), queue[place]);
        }
        due(what + ": the place behind the last one", x.waiting(queue.length), NONE);
        due(what + ": lost cells", x.total(5), queue.length);
    }

    static void loadsAre(String what, LocalMenders x, int... loads) {
        for (int node = 0; node < loads.length; node++) {
            due(what + ": load(" + node + ")", x.load(node), loads[node]);
        }
        due(what + ": nodes", x.total(4), loads.length);
    }

    static void cellsAre(String what, LocalMenders x, int stripe, int... cells) {
        for (int cell = 0; cell < cells.length; cell++) {
            due(what + ": value(" + stripe + ", " + cell + ")", x.value(stripe, cell), cells[cell]);
        }
        due(what + ": cells", x.total(4), cells.length);
    }

    /** In the rich story there are the stripes 0 to 3, and no others. */
    static void refusesUnknownStripes(String what, Open call) {
        for (int stripe : new int[] {-1, 4, 8, 100, LEAST, GREATEST}) {
            Story.rich().refuses(what + " of the stripe " + stripe, x -> call.on(x, stripe), UNKNOWN);
        }
    }

    /** In the rich story each stripe has the cells 0 to 9, and no others. */
    static void refusesUnknownCells(String what, Open call) {
        for (int cell : new int[] {-1, 10, 20, 32, 100, LEAST, GREATEST}) {
            Story.rich().refuses(what + " of the cell " + cell, x -> call.on(x, cell), UNKNOWN);
        }
    }

    /** In the rich story there are the nodes 0 to 9, and no others. */
    static void refusesUnknownNodes(String what, Open call) {
        for (int node : new int[] {-1, 10, 20, 32, 100, LEAST, GREATEST}) {
            Story.rich().refuses(what + " of the node " + node, x -> call.on(x, node), UNKNOWN);
        }
    }

    static void refusesOutOfRange(Story story, String what, Open call, int... numbers) {
        for (int number : numbers) {
            story.refuses(what + " with " + number, x -> call.on(x, number), OUT_OF_RANGE);
        }
    }
}
