import java.io.IOException;
import java.nio.file.Files;
import java.nio.file.Path;
import java.util.ArrayList;
import java.util.List;
import java.util.Map;
import java.util.TreeMap;
import java.util.concurrent.ExecutorService;
import java.util.concurrent.Executors;
import java.util.concurrent.Future;

/** The command that README.md names for running all tests, on small projects: it runs all their tests, and fails if one fails. */
public final class RunScriptTest {
    private static final String SCRIPT = ".ci/run";
    private static final String MAIN = "project/src/main/java/LocalMenders.java";
    private static final String OWN = "project/src/test/java/";
    private static final String SHARED = "shared/tests/";
    private static final String SOUND = "public final class LocalMenders { public int seven() { return 7; } }";
    private static int wrong = 0;

    private static void check(boolean good, String what) {
        if (!good) {
            wrong++;
            System.out.println("RunScriptTest: " + what);
        }
    }

    /** A small project that differs from a sound one: a file has this text, or, if that is empty, what starts so is not there. */
    private record Case(String what, String file, String text, boolean passes, String... printed) {
    }

    private static final List<Case> CASES = List.of(
        new Case("a sound project", MAIN, SOUND, true, "First is run", "Second is run", "OneTest is run", "OtherTest is run", "passed, 0 failed"),
        new Case("a first shared test that fails", SHARED + "First.java", test("First", "System.exit(1);"), false, "First is run", "Second is run", "1 failed"),
        new Case("a last shared test that fails", SHARED + "Second.java", test("Second", "System.exit(1);"), false, "First is run", "1 failed"),
        new Case("a shared test that throws", SHARED + "First.java", test("First", "Integer.parseInt(\"\");"), false, "Second is run", "1 failed"),
        new Case("a shared test that does not compile", SHARED + "First.java", test("First", "new LocalMenders().eight();"), false, "Second is run", "1 failed"),
        new Case("a test of its own that fails", OWN + "OneTest.java", test("OneTest", "System.exit(1);"), false, "OneTest is run", "OtherTest is run", "1 failed"),
        new Case("a last test of its own that throws", OWN + "OtherTest.java", test("OtherTest", "Integer.parseInt(\"\");"), false, "OneTest is run", "1 failed"),
        new Case("a test of its own that does not compile", OWN + "OneTest.java", test("OneTest", "new LocalMenders().eight();"), false, "First is run"),
        new Case("a class that does not compile", MAIN, SOUND.replace("return 7;", ""), false),
        new Case("a class that is not Java 17", MAIN, SOUND.replace("return 7;", "Object seven = 7; return switch (seven) { case Integer i -> i; default -> 0; };"), false),
        new Case("a class that is not there", MAIN, "", false),
        new Case("a shared folder without tests", SHARED, "", false, "OneTest is run"),
        new Case("no tests of its own", OWN, "", false, "First is run"));

    private static String test(String name, String last) {
        return "public final class " + name + " { public static void main(String[] args) { System.out.println(\"" + name
            + " is run\"); if (new LocalMenders().seven() != 7) { System.exit(1); } " + last + " } }";
    }

    public static void main(String[] args) throws Exception {
        List<String> commands = Page.readme().below("## Tests").code("sh").get(0);
        check(commands.equals(List.of(SCRIPT)), "README.md names these commands for all tests: " + commands);
        check(Files.isExecutable(Path.of(SCRIPT)), SCRIPT + " can be run");
        ExecutorService several = Executors.newFixedThreadPool(4);
        List<Future<List<String>>> outcomes = new ArrayList<>();
        for (Case one : CASES) {
            outcomes.add(several.submit(() -> faults(one)));
        }
        several.shutdown();
        for (Future<List<String>> outcome : outcomes) {
            for (String fault : outcome.get()) {
                check(false, fault);
            }
        }
        System.out.println("RunScriptTest: " + CASES.size() + " small projects, " + wrong + " faults");
        if (wrong != 0) {
            System.exit(1);
        }
    }

    private static List<String> faults(Case one) throws IOException, InterruptedException {
        List<String> faults = new ArrayList<>();
        try (Shell shell = new Shell()) {
            layOut(shell, one);
            // a clean checkout may lie where no file can be executed by itself
            Shell.Outcome outcome = shell.run("cd project && bash " + SCRIPT);
            if ((outcome.code() == 0) != one.passes()) {
                faults.add(one.what() + " ends with " + outcome);
            }
            for (String due : one.printed()) {
                if (!outcome.printed().contains(due)) {
                    faults.add(one.what() + " does not print \"" + due + "\", but ends with " + outcome);
                }
            }
        }
        return faults;
    }

    private static void layOut(Shell shell, Case one) throws IOException {
        Map<String, String> files = new TreeMap<>(Map.of(MAIN, SOUND,
            SHARED + "First.java", test("First", ""), SHARED + "Second.java", test("Second", ""),
            OWN + "OneTest.java", test("OneTest", ""), OWN + "OtherTest.java", test("OtherTest", "")));
        files.keySet().removeIf(file -> file.startsWith(one.file()));
        if (!one.text().isEmpty()) {
            files.put(one.file(), one.text());
        }
        for (String file : files.keySet()) {
            shell.write(file, files.get(file));
        }
        shell.write("project/" + SCRIPT, Files.readString(Path.of(SCRIPT)));
    }
}
