import java.nio.file.Files;
import java.nio.file.Path;
import java.util.List;
import java.util.regex.Matcher;
import java.util.regex.Pattern;

/** The rules of ../shared/LANGUAGE.md that the text of the program shows. To be run from the project's folder. */
public final class BellCoresRules {
    private static final Path PROGRAM = Path.of("src", "main", "java", "BellCores.java");
    private static final int LONGEST_METHOD = 60;
    private static final int MOST_CLASSES = 12;

    // Patterns with the rule that each would break.
    private static final String[][] FORBIDDEN = {
        {"1", "^\\s*package "},
        {"2", "->"},
        {"2", "::"},
        {"3", "\\b(Object|Map|HashMap|Set|Optional|BigInteger|Character|Boolean|Long\\[\\])\\b"},
        {"4", "^import (?!java\\.util\\.NoSuchElementException;)"},
        {"4", "\\w+Exact\\b"},
        {"5", "\\bstatic (?!final |class |int |boolean |long )(?=\\w+ \\w+ *[=;])"},
        {"5", "\\bstatic \\{"},
        {"6", "\\b(try|catch|finally|synchronized|assert|instanceof)\\b"},
        {"6", "\\b(equals|hashCode|toString|getMessage)\\b"},
        {"6", "throw (?!new (IllegalArgument|IllegalState|IndexOutOfBounds|Arithmetic|UnsupportedOperation"
            + "|NoSuchElement)Exception\\(\"[^\"]*\"\\);)"},
        {"9", "\\bwhile\\b"},
        {"10", "\"\\s*\\+|\\+\\s*\""},
        {"13", "\\b(System|Thread|Random|Runtime|nanoTime|currentTimeMillis)\\b"},
        {"texts", "[^\\x00-\\x7f]"},
    };

    private static int wrong = 0;

    private static void fault(String rule, int line, String what) {
        wrong++;
        System.out.println("rule " + rule + ", line " + line + ": " + what);
    }

    private static void checkWords(List<String> lines) {
        for (int i = 0; i < lines.size(); i++) {
            String code = lines.get(i).replaceAll("^\\s*(//|/\\*\\*|\\*).*$", "");
            for (String[] row : FORBIDDEN) {
                if (Pattern.compile(row[1]).matcher(code).find()) {
                    fault(row[0], i + 1, code.trim());
                }
            }
        }
    }

    /** A method begins with a line that ends in a parenthesis, perhaps exceptions, and a brace; it ends as indented. */
    private static void checkLengths(List<String> lines) {
        Pattern begin = Pattern.compile("^( {4}| {8})(?! )[\\w.\\[\\] ]+\\([^;=]*\\)( throws [\\w, ]+)? \\{$");
        for (int i = 0; i < lines.size(); i++) {
            Matcher matcher = begin.matcher(lines.get(i));
            if (!matcher.matches() || lines.get(i).trim().matches("(if|for|switch) .*")) {
                continue;
            }
            int end = i;
            while (!lines.get(end).equals(matcher.group(1) + "}")) {
                end++;
            }
            if (end - i + 1 > LONGEST_METHOD) {
                fault("11", i + 1, "a method of " + (end - i + 1) + " lines");
            }
        }
    }

    private static void checkClasses(List<String> lines) {
        long classes = lines.stream().filter(line -> line.matches("^\\s*\\w[\\w ]*\\b(class|enum) \\w+ \\{.*")).count();
        if (classes == 0 || classes > MOST_CLASSES) {
            fault("11", 1, "there are " + classes + " classes");
        }
    }

    public static void main(String[] args) throws Exception {
        List<String> lines = Files.readAllLines(PROGRAM);
        checkWords(lines);
        checkLengths(lines);
        checkClasses(lines);
        System.out.println(wrong == 0 ? "the program keeps to the rules that its text shows" : wrong + " faults");
        if (wrong != 0) {
            System.exit(1);
        }
    }
}
