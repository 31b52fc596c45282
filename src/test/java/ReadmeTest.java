import java.io.IOException;
import java.lang.reflect.Field;
import java.nio.file.Files;
import java.nio.file.Path;
import java.util.ArrayList;
import java.util.List;
import java.util.TreeSet;
import java.util.regex.Matcher;
import java.util.regex.Pattern;
import java.util.stream.Stream;

/**
 * What README.md says holds: its example compiles and answers so, its tables and quotes are the document's words, and its
 * commands do what they are there for. That its command for all tests runs them all is left to RunScriptTest.
 */
public final class ReadmeTest {
    private static final String PROGRAM = "public final class Example {";
    private static final Pattern PRINTED = Pattern.compile(".*; +// prints (-?\\d+)");
    private static final Pattern ANSWERED = Pattern.compile("(store\\.(\\w+)\\(.*\\)); *// answers (-?\\d+|[A-Z_]+)(:.*)?");
    private static int wrong = 0;

    private static void check(boolean good, String what) {
        if (!good) {
            wrong++;
            System.out.println("ReadmeTest: " + what);
        }
    }

    private static void same(String what, List<String> got, List<String> want) {
        for (int k = 0; k < Math.max(got.size(), want.size()); k++) {
            String left = k < got.size() ? got.get(k) : "nothing";
            String right = k < want.size() ? want.get(k) : "nothing";
            check(left.equals(right), what + ": there is\n  " + left + "\nwhere due is\n  " + right);
        }
    }

    public static void main(String[] args) throws Exception {
        Page readme = Page.readme();
        Page document = Page.document();
        check(!readme.isEmpty(), "README.md is empty");
        example(readme);
        wholeProgram(readme);
        constants(readme, document);
        calls(readme, document);
        quotes(readme, document);
        singleTest(readme);
        namesOfTests(readme);
        System.out.println(wrong == 0 ? "ReadmeTest: the page holds" : "ReadmeTest: " + wrong + " faults");
        if (wrong != 0) {
            System.exit(1);
        }
    }

    // ---- the example

    private static List<List<String>> parts(Page readme) {
        return readme.below("## An example").code("java");
    }

    private static void example(Page readme) throws Exception {
        List<Matcher> answered = parts(readme).stream().flatMap(List::stream).map(ANSWERED::matcher).filter(Matcher::matches).toList();
        TreeSet<String> called = new TreeSet<>(answered.stream().map(call -> call.group(2)).toList());
        same("the calls that the example shows", List.copyOf(called), List.copyOf(new TreeSet<>(namesInTheDocument(Page.document()))));
        try (Shell shell = new Shell()) {
            Shell.Outcome outcome = runParts(shell, readme, 0);
            check(outcome.code() == 0 && outcome.printed().isEmpty(), "the example ends with " + outcome);
        }
        try (Shell shell = new Shell()) {
            Shell.Outcome outcome = runParts(shell, readme, 1);
            check(outcome.lines().size() == answered.size(), "not all wrong answers are noticed: " + outcome);
        }
    }

    /** Runs the parts as methods of a program that prints what is not answered as shown, when the numbers shown are increased. */
    private static Shell.Outcome runParts(Shell shell, Page readme, int increase) throws IOException, InterruptedException {
        List<String> program = new ArrayList<>(List.of("public final class Parts {",
            "    static final int UNKNOWN = LocalMenders.UNKNOWN, OUT_OF_RANGE = LocalMenders.OUT_OF_RANGE, FULL = LocalMenders.FULL,",
            "        NOT_POSSIBLE = LocalMenders.NOT_POSSIBLE, NONE = LocalMenders.NONE;",
            "    static void due(String call, int got, int shown) {",
            "        if (got != shown) { System.out.println(call + \" answers \" + got + \", shown is \" + shown); }",
            "    }"));
        StringBuilder all = new StringBuilder("    public static void main(String[] args) {");
        int number = 0;
        for (List<String> part : parts(readme)) {
            number++;
            all.append(" part").append(number).append("();");
            program.add("    static void part" + number + "() {");
            for (String line : part) {
                program.add("        " + asked(line, increase));
            }
            program.add("    }");
        }
        program.add(all + " }");
        program.add("}");
        shell.write("Parts.java", program.toArray(new String[0]));
        return shell.run("javac --release 17 -d out '" + Path.of("src/main/java/LocalMenders.java").toAbsolutePath() + "' Parts.java && java -cp out Parts");
    }

    /** A call that shows its answer, as one that asks for it; another line as it stands, if it isn't a call without an answer. */
    private static String asked(String line, int increase) {
        Matcher call = ANSWERED.matcher(line);
        if (call.matches()) {
            return "due(\"" + call.group(1).replace("\"", "\\\"") + "\", " + call.group(1) + ", " + call.group(3) + " + " + increase + ");";
        }
        check(!line.startsWith("store."), "the answer of a call is not shown: " + line);
        return line;
    }

    // ---- the program that is shown whole

    private static void wholeProgram(Page readme) throws Exception {
        Page use = readme.below("## Use");
        List<List<String>> programs = use.code("java");
        check(programs.size() == 1 && programs.get(0).get(0).equals(PROGRAM), "there is one program");
        List<String> due = new ArrayList<>();
        for (String line : programs.get(0)) {
            Matcher call = PRINTED.matcher(line);
            check(call.matches() || !line.contains("println"), "it is not shown what is printed: " + line);
            if (call.matches()) {
                due.add(call.group(1));
            }
        }
        check(due.size() > 3, "the program prints only " + due);
        try (Shell shell = new Shell()) {
            shell.write("Example.java", programs.get(0).toArray(new String[0]));
            same("the program prints", commands(shell, use).lines(), due);
        }
    }

    /** Runs the commands that a part of the page names, where the project's sources are in reach as in its folder. */
    private static Shell.Outcome commands(Shell shell, Page part) throws IOException, InterruptedException {
        List<List<String>> commands = part.code("sh");
        Files.createSymbolicLink(shell.folder.resolve("src"), Path.of("src").toAbsolutePath());
        Shell.Outcome outcome = shell.run("set -e\n" + String.join("\n", commands.get(commands.size() - 1)));
        check(outcome.code() == 0, "the commands end with " + outcome);
        return outcome;
    }

    // ---- the tables and quotes

    private static void constants(Page readme, Page document) throws Exception {
        List<String> rows = new ArrayList<>();
        Matcher constant = Pattern.compile("`([A-Z_]+) = (-\\d+)`: ([^`]*?\\.)(?= |$)").matcher(document.inOneLine());
        while (constant.find()) {
            rows.add("| `" + constant.group(1) + "` | " + constant.group(2) + " | " + constant.group(3) + " |");
            Field field = LocalMenders.class.getField(constant.group(1));
            check(field.getInt(null) == Integer.parseInt(constant.group(2)), constant.group(1) + " is " + field.getInt(null));
        }
        check(rows.size() == 5, "the document has the constants " + rows);
        same("the constants", readme.below("## The constants").startingWith("| `"), rows);
    }

    private static void calls(Page readme, Page document) {
        List<String> lines = new ArrayList<>();
        Matcher group = Pattern.compile("Ahead of the calls ([^.]*) the interface says: ---- ([^.]*)\\.").matcher(document.inOneLine());
        while (group.find()) {
            lines.add("### " + group.group(2).substring(0, 1).toUpperCase() + group.group(2).substring(1));
            for (String name : group.group(1).split(", ")) {
                lines.add(row(document, name.replace("`", "")));
            }
        }
        check(lines.size() == 35, "the document has so many calls and groups: " + lines.size());
        same("the calls", readme.below("## The calls").startingWith("### ", "| `"), lines);
        List<String> constructor = document.lines().stream().filter(line -> line.startsWith("`LocalMenders()`: ")).map(line -> "`new " + line.substring(1)).toList();
        same("the constructor", readme.below("## The calls").startingWith("`new "), constructor);
    }

    /** What the document promises of a call, in a row: the call, what it does, what it answers. */
    private static String row(Page document, String name) {
        String call = "";
        String does = "";
        String ranges = "";
        Page promise = promise(document, name);
        Matcher first = Pattern.compile("`int (\\w+\\(.*?\\))`: (.*)").matcher(String.join("\n", promise.startingWith("`int ")));
        if (first.matches()) {
            call = first.group(1).replaceAll("(int|char) ", "");
            does = first.group(2);
        }
        for (String argument : promise.startingWith("- `")) {
            if (!argument.matches("- `\\w+`: a (stripe|cell|node)")) {
                ranges += (ranges.isEmpty() ? " " : "; ") + argument.substring(2);
            }
        }
        String answers = String.join("\n", promise.startingWith("Returns ")).replaceAll("^Returns |\\.$", "");
        return "| `" + call + "` | " + does + ranges + " | " + answers + " |";
    }

    private static Page promise(Page document, String name) {
        List<String> headlines = document.lines().stream().filter(line -> line.matches("## Promise \\d+: " + name)).toList();
        check(headlines.size() == 1, "there is one promise of " + name);
        return document.below(headlines.isEmpty() ? "## Promise" : headlines.get(0));
    }

    private static List<String> namesInTheDocument(Page document) {
        return document.startingWith("`int ").stream().map(line -> line.replaceAll("^`int (\\w+)\\(.*", "$1")).toList();
    }

    private static void quotes(Page readme, Page document) {
        check(readme.quotes().size() >= 3, "there are only " + readme.quotes().size() + " quotes");
        for (String quote : readme.quotes()) {
            check(document.inOneLine().contains(quote), "the document does not say: " + quote);
        }
    }

    // ---- the tests

    private static void singleTest(Page readme) throws Exception {
        try (Shell shell = new Shell()) {
            Shell.Outcome outcome = commands(shell, readme.below("## Tests"));
            check(outcome.printed().contains("PromisesTest: all answers are as due"), "the single test ends with " + outcome);
        }
    }

    /** Each class under src/test/java that the page names is there, and each test there is named. */
    private static void namesOfTests(Page readme) throws IOException {
        TreeSet<String> there = new TreeSet<>();
        try (Stream<Path> files = Files.list(Path.of("src/test/java"))) {
            files.map(file -> file.getFileName().toString().replace(".java", "")).forEach(there::add);
        }
        TreeSet<String> named = new TreeSet<>();
        Matcher name = Pattern.compile("`(\\w+Test)`").matcher(readme.below("## Tests").inOneLine());
        while (name.find()) {
            named.add(name.group(1));
        }
        there.removeIf(file -> !file.endsWith("Test"));
        same("the tests", List.copyOf(named), List.copyOf(there));
    }
}
