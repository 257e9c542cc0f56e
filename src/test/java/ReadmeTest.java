import java.io.IOException;
import java.lang.reflect.InvocationTargetException;
import java.lang.reflect.Method;
import java.lang.reflect.Modifier;
import java.nio.file.Files;
import java.nio.file.Path;
import java.util.List;
import java.util.Set;
import java.util.TreeSet;
import java.util.regex.Matcher;
import java.util.regex.Pattern;

/** README.md agrees with the class: each call of its example answers as written, none is left out. */
public final class ReadmeTest {
    private static final String MADE = "ConferenceBridge bridge = new ConferenceBridge();";
    private static final Pattern CALL =
        Pattern.compile("bridge\\.(\\w+)\\(([^()]*)\\); +// (throws \\w+|-?\\w+): .+");
    private static final List<String> FACE = List.of(
        "int NONE",
        "ConferenceBridge()",
        "int decode(int law, int code)",
        "int encode(int law, int sample)",
        "boolean law(int party, int law)",
        "boolean gain(int party, int gain)",
        "boolean mute(int party, boolean muted)",
        "boolean speakers(int n)",
        "boolean put(int party, int k, int code)",
        "boolean ramp(int party, int from, int step)",
        "int mix()",
        "int out(int party, int k)",
        "long energy(int party)");

    public static void main(String[] args) throws IOException {
        Checks checks = new Checks();
        List<String> lines = Files.readAllLines(Path.of("README.md"));
        theExampleAnswersAsWritten(checks, lines);
        eachCallHasARow(checks, lines);
        checks.due("README.md tells how to run the tests", lines.contains(".ci/run"), true);
        checks.end();
    }

    private static void theExampleAnswersAsWritten(Checks checks, List<String> lines) {
        checks.begin("the example in README.md");
        ConferenceBridge bridge = new ConferenceBridge();
        Set<String> called = new TreeSet<>();
        int start = lines.indexOf("```java") + 1;
        checks.due("it starts with " + MADE, lines.get(start).equals(MADE), true);
        for (String line : lines.subList(start + 1, lines.size())) {
            if (line.equals("```")) {
                break;
            }
            if (!line.isEmpty()) {
                called.add(dueAsWritten(checks, bridge, line));
            }
        }
        for (Method method : ConferenceBridge.class.getDeclaredMethods()) {
            boolean told = !Modifier.isPublic(method.getModifiers()) || called.contains(method.getName());
            checks.due("it shows " + method.getName(), told, true);
        }
    }

    /** Makes the call that a line of the example shows, and answers its name. */
    private static String dueAsWritten(Checks checks, ConferenceBridge bridge, String line) {
        Matcher call = CALL.matcher(line);
        if (!call.matches()) {
            checks.due("a call and its answer: " + line, false, true);
            return "";
        }
        String[] words = call.group(2).isEmpty() ? new String[0] : call.group(2).split(", ");
        String written = call.group(3).equals("NONE") ? "-1" : call.group(3);
        String answer = answerOf(bridge, call.group(1), words);
        checks.due(line + " (answered " + answer + ")", answer.equals(written), true);
        return call.group(1);
    }

    private static String answerOf(ConferenceBridge bridge, String name, String[] words) {
        for (Method method : ConferenceBridge.class.getMethods()) {
            if (method.getName().equals(name) && method.getParameterCount() == words.length) {
                return answerOf(bridge, method, words);
            }
        }
        return "no such call";
    }

    private static String answerOf(ConferenceBridge bridge, Method method, String[] words) {
        Object[] values = new Object[words.length];
        for (int i = 0; i < words.length; i++) {
            boolean number = method.getParameterTypes()[i] == int.class;
            values[i] = number ? (Object) Integer.valueOf(words[i]) : (Object) Boolean.valueOf(words[i]);
        }
        try {
            return String.valueOf(method.invoke(bridge, values));
        } catch (InvocationTargetException thrown) {
            return "throws " + thrown.getCause().getClass().getSimpleName();
        } catch (IllegalAccessException hidden) {
            return "not public";
        }
    }

    private static void eachCallHasARow(Checks checks, List<String> lines) {
        checks.begin("the table of calls in README.md");
        for (String member : FACE) {
            long rows = lines.stream().filter(line -> line.startsWith("| `" + member + "` | ")).count();
            checks.due("rows of " + member, rows, 1);
        }
    }
}
