import java.io.IOException;
import java.nio.file.Files;
import java.nio.file.Path;
import java.util.ArrayList;
import java.util.List;
import java.util.NoSuchElementException;
import java.util.function.Supplier;

/** How the test of an edge is told and judged, and the quotes that the tests bear. */
abstract class Edges {
    static final String ARGUMENT = "IllegalArgumentException";
    static final String INDEX = "IndexOutOfBoundsException";
    static final String REFUSED = "UnsupportedOperationException";
    static final String NONE = "NoSuchElementException";
    static final String STATE = "IllegalStateException";
    static final String ARITHMETIC = "ArithmeticException";

    static final String DIGITS = "0123456789";
    /** What a promise throws for a reason of refusal is told by this behind the reasons. */
    static final String KEPT = "; the reason is kept for refusal";
    static final String CHANGES = "The changes are the successful calls of coal, bronze, mould, smash, rack, strike, "
        + "pour, pass, take, ring, file, recast and run.";

    static final List<String> QUOTES = new ArrayList<>();
    static int tests = 0;
    static int broken = 0;
    static String testing = "";
    static boolean holds = true;

    interface Test {
        void go();
    }

    interface Call {
        Object answer();
    }

    interface Asked {
        Object answer(BellCores x, int number);
    }

    /** A test of a sentence of a promise, or of the text ahead of all promises, which is numbered 0. */
    static void edge(int promise, String sentence, String which, Test test) {
        tests++;
        QUOTES.add(promise + ":" + sentence);
        testing = "promise " + promise + ", \"" + sentence + "\", " + which;
        holds = true;
        try {
            test.go();
        } catch (RuntimeException thrown) {
            fault("the test was ended by " + thrown);
        }
        broken += holds ? 0 : 1;
    }

    static void fault(String what) {
        holds = false;
        System.out.println(testing + ": " + what);
    }

    static Object answerOf(Call call) {
        try {
            return call.answer();
        } catch (IllegalArgumentException | IllegalStateException | IndexOutOfBoundsException | ArithmeticException
            | UnsupportedOperationException | NoSuchElementException thrown) {
            return thrown.getClass().getSimpleName();
        }
    }

    static void due(String what, Object want, Call call) {
        Object got = answerOf(call);
        if (!want.equals(got)) {
            fault(what + " answered " + got + ", due is " + want);
        }
    }

    static void dueAccount(BellCores x, String what, int account, int want) {
        due(what, want, () -> x.account(account));
    }

    /** What goes on changes neither what changes can change nor the input, the line, the error position and reason. */
    static void stays(BellCores x, Test test) {
        String before = stateOf(x) + textsOf(x) + reasonOf(x);
        test.go();
        due("the state behind it", before, () -> stateOf(x) + textsOf(x) + reasonOf(x));
    }

    static void throwing(BellCores x, String what, String exception, Call call) {
        stays(x, () -> due(what, exception, call));
    }

    /** A refused call keeps its reason, and leaves all else as it was. */
    static void refused(BellCores x, String what, int reason, int detail, Call call) {
        String before = stateOf(x) + textsOf(x);
        due(what, REFUSED, call);
        due(what + ", the reason", reason, () -> x.refusal(false));
        due(what + ", the detail", detail, () -> x.refusal(true));
        due(what + ", the state behind it", before, () -> stateOf(x) + textsOf(x));
    }

    /** As refused, for a text, which leaves the input empty and no error position. */
    static void refusedText(BellCores x, String text, int reason, int detail) {
        String before = stateOf(x);
        due(text, REFUSED, () -> run(x, text));
        due(text + ", the reason", reason, () -> x.refusal(false));
        due(text + ", the detail", detail, () -> x.refusal(true));
        due(text + ", the state behind it", before, () -> stateOf(x));
        dueAccount(x, text + ", the input behind it", 14, 0);
        due(text + ", the error position", -1, x::errorPosition);
    }

    /** Both ends are taken, each by a new foundry; what lies outside is not, and changes nothing. */
    static void range(Supplier<BellCores> foundry, int least, int greatest, Asked call) {
        for (int number : new int[] {least, greatest}) {
            BellCores x = foundry.get();
            due(number + " is taken", true, () -> answerOf(() -> call.answer(x, number)) instanceof Integer);
        }
        BellCores x = foundry.get();
        stays(x, () -> {
            for (int number : new int[] {least - 1, greatest + 1, Integer.MIN_VALUE, Integer.MAX_VALUE,
                least + 65536, least - 65536, least + (1 << 30), least - (1 << 30)}) {
                due("" + number, ARGUMENT, () -> call.answer(x, number));
            }
        });
    }

    /** There are so many, of which the last and the first are known; what lies outside is not, and changes nothing. */
    static void among(BellCores x, int count, String exception, Asked call) {
        stays(x, () -> {
            for (int number : new int[] {-1, count, Integer.MIN_VALUE, Integer.MAX_VALUE, 65536, -65536, 1 << 28,
                1 << 29, 1 << 30}) {
                due("" + number, exception, () -> call.answer(x, number));
            }
        });
        for (int i = Math.min(count, 2); i > 0; i--) {
            int number = i == 2 ? count - 1 : 0;
            due(number + " is known", true, () -> !exception.equals(answerOf(() -> call.answer(x, number))));
        }
    }

    static void type(BellCores x, String text) {
        for (int i = 0; i < text.length(); i++) {
            x.append(text.charAt(i));
        }
    }

    static Object run(BellCores x, String text) {
        type(x, text);
        return x.run();
    }

    static void dueError(String text, int position) {
        BellCores x = new BellCores();
        Object answer = answerOf(() -> run(x, text));
        due("the error position of '" + text + "'", position, x::errorPosition);
        if (position >= 0) {
            due("run of '" + text + "'", ARGUMENT, () -> answer);
        }
    }

    static String stateOf(BellCores x) {
        StringBuilder state = new StringBuilder();
        for (int what = 0; what < 14; what++) {
            state.append(x.account(what)).append(' ');
        }
        state.append("changes ").append(x.account(15)).append(' ');
        for (int mould = 0; mould < x.account(2); mould++) {
            state.append("m").append(x.mouldOf(mould, 0)).append(' ').append(x.mouldOf(mould, 1)).append(' ');
        }
        for (int rack = 0; rack < x.account(3); rack++) {
            state.append("r").append(x.rackOf(rack, 0)).append(' ');
        }
        for (int bell = 0; bell < x.account(4); bell++) {
            state.append(bellAt(x, bell)).append('n').append(x.note(bell, true)).append(' ');
        }
        return state.toString();
    }

    static String textsOf(BellCores x) {
        return "input " + x.account(14) + " line '" + lineOf(x) + "' error " + x.errorPosition();
    }

    static String reasonOf(BellCores x) {
        return " reason " + answerOf(() -> x.refusal(false)) + " " + answerOf(() -> x.refusal(true));
    }

    static String lineOf(BellCores x) {
        StringBuilder line = new StringBuilder();
        for (int i = 0; i < 40; i++) {
            int index = i;
            Object c = answerOf(() -> x.character(index));
            if (!(c instanceof Character)) {
                break;
            }
            line.append(c);
        }
        return line.toString();
    }

    static String accountsOf(BellCores x) {
        StringBuilder accounts = new StringBuilder();
        for (int what = 0; what < 16; what++) {
            accounts.append(what == 0 ? "" : " ").append(x.account(what));
        }
        return accounts.toString();
    }

    /** Core, sand, pounds, rack, warmth, cracks and marks. */
    static String bellAt(BellCores x, int bell) {
        StringBuilder told = new StringBuilder("b");
        for (int what = 0; what < 7; what++) {
            told.append(x.bellOf(bell, what)).append(' ');
        }
        return told.toString();
    }

    static String coresOf(BellCores x) {
        StringBuilder cores = new StringBuilder();
        for (int mould = 0; mould < x.account(2); mould++) {
            cores.append(mould == 0 ? "" : " ").append(x.mouldOf(mould, 0));
        }
        return cores.toString();
    }

    static String noSuch(String what) {
        return "Throws `IndexOutOfBoundsException` if there is no such " + what;
    }

    static String wrongArgument(String which) {
        return "Throws `IllegalArgumentException` if " + which;
    }

    static String reason(String which) {
        return "Throws `UnsupportedOperationException` if it is refused for reason " + which + KEPT;
    }

    /** By promise what the document says of it, on one line; 0 for the text ahead of the promises. */
    static List<String> sectionsOf(String document) {
        List<String> sections = new ArrayList<>();
        for (String section : document.split("(?m)^## (?=Promise \\d+:)")) {
            sections.add(section.replaceAll("(?s)\n## Not promised.*", ""));
        }
        return sections;
    }

    static String onOneLine(String text) {
        return text.replaceAll("\\s+", " ");
    }

    /** Each quote stands in the document, and each exception of each promise is quoted. */
    static void checkQuotes(Path path) throws IOException {
        List<String> sections = sectionsOf(Files.readString(path));
        for (String quote : QUOTES) {
            int promise = Integer.parseInt(quote.substring(0, quote.indexOf(':')));
            String sentence = quote.substring(quote.indexOf(':') + 1);
            if (promise >= sections.size() || !onOneLine(sections.get(promise)).contains(sentence)) {
                System.out.println("promise " + promise + " does not say: " + sentence);
                broken++;
            }
        }
        for (int promise = 1; promise < sections.size(); promise++) {
            for (String line : sections.get(promise).split("\n")) {
                if (line.startsWith("Throws ") && !QUOTES.contains(promise + ":" + line.strip())) {
                    System.out.println("promise " + promise + " has no test of: " + line);
                    broken++;
                }
            }
        }
    }
}
