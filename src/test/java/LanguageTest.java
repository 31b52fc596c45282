import java.nio.file.Files;
import java.nio.file.Path;
import java.util.regex.Matcher;
import java.util.regex.Pattern;

/** Looks in the program's source, from the project's folder, for what ../shared/LANGUAGE.md rules out and a pattern can find. */
public final class LanguageTest {
    private static final String[] RULED_OUT = {"\\bpackage\\b", "\\bimport\\s+(?!java\\.util\\.(Arrays|ArrayList|List);)", "\\bthrow", "\\btry\\b",
        "\\bcatch\\b", "\\bfinally\\b", "\\bsynchronized\\b", "\\bassert\\b", "->", "::", "\\bstatic\\s*\\{", "Exact\\(", "\\bprotected\\b", "\\bSystem\\.(?!arraycopy)",
        "\\b(equals|hashCode|toString|finalize)\\s*\\(", "\\b(Thread|Random|Object|Exception|Error|Class)\\b", "\\bwhile\\s*\\(\\s*true\\s*\\)", "for\\s*\\(\\s*;",
        "\\bnative\\b", "\\bvolatile\\b", "\\btransient\\b", "\\bstatic\\s+(?!final\\b)\\w+(\\[\\])*\\s+\\w+\\s*(=|;)", "@", "\\bvar\\b"};
    private static int wrong = 0;

    private static void check(boolean good, String what) {
        if (!good) {
            wrong++;
            System.out.println("LanguageTest: " + what);
        }
    }

    public static void main(String[] args) throws Exception {
        String source = Files.readString(Path.of("src/main/java/LocalMenders.java"));
        String code = source.replaceAll("(?s)/\\*.*?\\*/", "").replaceAll("//[^\n]*", "");
        check(code.chars().allMatch(sign -> sign < 127), "the code has signs beyond 126");
        check(code.indexOf('"') < 0, "a String stands in the code, and the tests below do not know of Strings");
        String bare = code.replaceAll("'[^']+'", "' '");
        for (String pattern : RULED_OUT) {
            Matcher matcher = Pattern.compile(pattern).matcher(bare);
            check(!matcher.find(), pattern + " is ruled out");
        }
        madeInConstructors(bare);
        lengths(bare);
        System.out.println(wrong == 0 ? "LanguageTest: nothing is found" : "LanguageTest: " + wrong + " faults");
        if (wrong != 0) {
            System.exit(1);
        }
    }

    /** No call makes an object, so that a run needs no more room than its objects at first. */
    private static void madeInConstructors(String code) {
        for (String line : code.split("\n")) {
            if (Pattern.compile("\\bnew\\b").matcher(line).find()) {
                boolean field = line.matches("\\s+private final .* = new .*;");
                check(field || line.trim().equals("history[place] = new State();"), "made elsewhere than in a constructor: " + line.trim());
            }
        }
    }

    /** Methods stay below 60 lines, and take at most seven parameters. */
    private static void lengths(String code) {
        Matcher method = Pattern.compile("(?m)^( +)(?:public|private) [^;={]*\\(([^)]*)\\) \\{\n((?:.*\n)*?)\\1\\}").matcher(code);
        int count = 0;
        while (method.find()) {
            count++;
            check(method.group(3).lines().count() <= 60, "too long: " + method.group().lines().findFirst().orElse(""));
            check(method.group(2).split(",").length <= 7, "too many parameters: " + method.group(2));
        }
        check(count > 60, "only " + count + " methods were found");
    }
}
