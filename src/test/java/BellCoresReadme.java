import java.lang.reflect.InvocationTargetException;
import java.lang.reflect.Method;
import java.nio.file.Files;
import java.nio.file.Path;
import java.util.ArrayList;
import java.util.LinkedHashMap;
import java.util.List;
import java.util.Map;
import java.util.regex.Matcher;
import java.util.regex.Pattern;

/**
 * README.md is true: its examples, run line by line, answer what stands behind them, and each call is told in the
 * document's words. To be run from the project's folder: the words are looked up in ../shared/DOC.md.
 */
public final class BellCoresReadme {
    private static final Path README = Path.of("README.md");
    private static final Path DOCUMENT = Path.of("..", "shared", "DOC.md");
    private static final int CALLS = 38;

    private static final Pattern BLOCK = Pattern.compile("(?s)```java\n(.*?)```");
    private static final Pattern CALL = Pattern.compile("foundry\\.(\\w+)\\((.*)\\);(?:\\s*// ([^,]+)(, .*)?)?");
    private static final Pattern TEXT = Pattern.compile("for \\(char c : \"(.*)\"\\.toCharArray\\(\\)\\) \\{");
    private static final Pattern CATCH = Pattern.compile("} catch \\((\\w+) \\w+\\) \\{");

    private static int wrong = 0;
    private static int answers = 0;
    private static int refusals = 0;
    private static BellCores foundry = null;
    private static String thrown = "";

    private static void fault(String what) {
        wrong++;
        System.out.println(what);
    }

    private static Object argument(Class<?> type, String written) {
        return type == boolean.class ? (Object) Boolean.valueOf(written) : (Object) Integer.valueOf(written);
    }

    private static Method methodOf(String name) {
        for (Method method : BellCores.class.getMethods()) {
            if (method.getName().equals(name) && method.getDeclaringClass() == BellCores.class) {
                return method;
            }
        }
        throw new IllegalStateException("README.md calls " + name + ", which is no call");
    }

    private static void runCall(String name, String written, String due) throws IllegalAccessException {
        Method method = methodOf(name);
        String[] parts = written.isEmpty() ? new String[0] : written.split(", ");
        Object[] arguments = new Object[parts.length];
        for (int i = 0; i < parts.length; i++) {
            arguments[i] = argument(method.getParameterTypes()[i], parts[i]);
        }
        try {
            Object answer = method.invoke(foundry, arguments);
            String told = answer instanceof Character ? "'" + answer + "'" : "" + answer;
            answers++;
            if (due != null && !due.equals(told)) {
                fault("README.md: " + name + "(" + written + ") answered " + told + ", due is " + due);
            }
        } catch (InvocationTargetException exception) {
            thrown = exception.getCause().getClass().getSimpleName();
            if (due != null) {
                fault("README.md: " + name + "(" + written + ") threw " + thrown + ", due is " + due);
            }
        }
    }

    private static void runLine(String line) throws IllegalAccessException {
        Matcher call = CALL.matcher(line);
        Matcher text = TEXT.matcher(line);
        Matcher caught = CATCH.matcher(line);
        if (line.equals("BellCores foundry = new BellCores();")) {
            foundry = new BellCores();
        } else if (text.matches()) {
            for (char c : text.group(1).toCharArray()) {
                foundry.append(c);
            }
        } else if (caught.matches()) {
            if (!thrown.equals(caught.group(1))) {
                fault("README.md catches " + caught.group(1) + ", thrown was: " + thrown);
            }
            thrown = "";
            refusals++;
        } else if (call.matches() && !call.group(2).equals("c")) {
            runCall(call.group(1), call.group(2), call.group(3));
        } else if (!line.matches("try \\{|}|foundry\\.append\\(c\\);")) {
            fault("README.md has a line that is no example: " + line);
        }
    }

    private static void checkExamples(String readme) throws IllegalAccessException {
        Matcher block = BLOCK.matcher(readme);
        while (block.find()) {
            for (String line : block.group(1).split("\n")) {
                runLine(line.strip());
            }
        }
        if (!thrown.isEmpty()) {
            fault("README.md does not catch " + thrown);
        }
        if (answers == 0 || refusals == 0) {
            fault("README.md has no examples");
        }
    }

    /** By the call, as Java writes it, the words that stand behind it. */
    private static Map<String, String> callsOf(String readme) {
        Map<String, String> calls = new LinkedHashMap<>();
        String[] parts = readme.split("(?m)^#### ");
        for (int i = 1; i < parts.length; i++) {
            String part = parts[i].split("(?m)^##")[0];
            int end = part.indexOf('\n');
            calls.put(part.substring(0, end).replace("`", ""), onOneLine(part.substring(end)));
        }
        return calls;
    }

    /** The same from the document, in the form of README.md. */
    private static Map<String, String> promisesOf(String document) {
        Map<String, String> promises = new LinkedHashMap<>();
        Pattern beginning = Pattern.compile("`(.*?)( throws .*?)?`: (.*)");
        for (String section : document.split("\n## Not promised")[0].split("(?m)^## Promise \\d+: .*\n")) {
            List<String> words = new ArrayList<>();
            String call = null;
            for (String paragraph : section.strip().split("\n\n")) {
                Matcher matcher = beginning.matcher(onOneLine(paragraph));
                if (call == null && matcher.matches()) {
                    call = matcher.group(1);
                    words.add(matcher.group(3));
                } else {
                    words.add((paragraph.startsWith("- ") ? "" : "- ") + onOneLine(paragraph));
                }
            }
            if (call != null) {
                promises.put(call, String.join(" ", words));
            }
        }
        return promises;
    }

    private static String onOneLine(String text) {
        return text.strip().replaceAll("\\s+", " ");
    }

    private static void checkWords(Map<String, String> calls, Map<String, String> promises) {
        if (promises.size() != CALLS) {
            fault("the document was read as " + promises.size() + " calls, not " + CALLS);
        }
        for (Map.Entry<String, String> promise : promises.entrySet()) {
            String told = calls.get(promise.getKey());
            if (!promise.getValue().equals(told)) {
                fault("README.md tells of " + promise.getKey() + ": " + told + "\n  due is: " + promise.getValue());
            }
        }
    }

    public static void main(String[] args) throws Exception {
        String readme = Files.readString(README);
        checkExamples(readme);
        Map<String, String> calls = callsOf(readme);
        if (calls.size() != CALLS) {
            fault("README.md tells of " + calls.size() + " calls, not " + CALLS);
        }
        if (Files.isReadable(DOCUMENT)) {
            checkWords(calls, promisesOf(Files.readString(DOCUMENT)));
        }
        System.out.println(wrong == 0 ? "README.md is true: " + answers + " answers, " + calls.size() + " calls"
            : wrong + " faults of README.md");
        if (wrong != 0) {
            System.exit(1);
        }
    }
}
