import java.lang.reflect.Method;
import java.lang.reflect.Modifier;
import java.nio.file.Files;
import java.nio.file.Path;
import java.util.Map;
import java.util.TreeMap;
import java.util.regex.Matcher;
import java.util.regex.Pattern;

/** That the answers told on README.md are those of the class, and that it names every call and constant. */
public final class ReadmeTest {
    private static final Pattern TOLD = Pattern.compile("(?m)^String told = \"([^\"]*)\";");
    private static final Pattern CALL =
            Pattern.compile("(?m)^desk\\.([a-z]+)\\(([^)]*)\\); +// (-?\\d+):");
    private static final Pattern ROW_BY_NAME =
            Pattern.compile("(?m)^\\| [^|]+ \\| `([^`]+;[^`]+)` \\| ([-/\\d, ]+) \\|$");
    private static final Pattern CALL_IN_TABLE = Pattern.compile("(?m)^\\| `([a-z]+)\\(([^)]*)\\)` \\|");
    private static final Pattern CONSTANT_IN_TABLE = Pattern.compile("`([A-Z]+)` \\|? ?\\(?(-\\d)");

    private static int wrong = 0;

    private ReadmeTest() {
    }

    public static void main(String[] args) throws Exception {
        String readme = Files.readString(Path.of("README.md"));
        example(readme);
        rowsByName(readme);
        callTable(readme);
        constants(readme);
        System.out.println(wrong == 0 ? "README.md tells what the class answers" : wrong + " wrong");
        if (wrong != 0) {
            System.exit(1);
        }
    }

    private static void hold(boolean holds, String what) {
        if (!holds) {
            wrong++;
            System.out.println(what);
        }
    }

    private static void go(String script) {
        for (String fault : new DeskRun().go(script).wrong) {
            hold(false, script + ": " + fault);
        }
    }

    /** One desk for the whole example: first its letters, then each call that tells an answer. */
    private static void example(String readme) {
        Matcher told = TOLD.matcher(readme);
        hold(told.find(), "no text in the example");
        StringBuilder script = new StringBuilder("'").append(told.group(1)).append("' ");
        Matcher call = CALL.matcher(readme);
        int calls = 0;
        while (call.find()) {
            calls++;
            script.append(call.group(1)).append('(').append(call.group(2).replace(" ", "")).append(")=")
                    .append(dueOf(Integer.parseInt(call.group(3)))).append(' ');
        }
        hold(calls >= 20, "the example has lost calls: " + calls);
        go(script.toString());
    }

    private static String dueOf(int answer) {
        String[] names = {"NONE", "UNKNOWN", "OUTSIDE", "NOT", "FULL", "WRONG"};
        return answer < 0 ? names[-1 - answer] : Integer.toString(answer);
    }

    private static void rowsByName(String readme) {
        Matcher row = ROW_BY_NAME.matcher(readme);
        int rows = 0;
        while (row.find()) {
            rows++;
            go("'" + row.group(1) + "' fault()=NONE read(0) polynomial(0,3)=[" + row.group(2).replace(" ", "") + "]");
        }
        hold(rows == 10, "rows by name: " + rows);
    }

    private static void callTable(String readme) {
        Matcher call = CALL_IN_TABLE.matcher(readme);
        Map<String, Integer> told = new TreeMap<>();
        while (call.find()) {
            told.put(call.group(1), call.group(2).isEmpty() ? 0 : call.group(2).split(",").length);
        }
        // The language's own e, q, l, i stand in a table too, with no such call behind them.
        told.keySet().removeIf(name -> name.length() == 1);
        Map<String, Integer> face = new TreeMap<>();
        for (Method method : ShadowRowDesk.class.getDeclaredMethods()) {
            if (Modifier.isPublic(method.getModifiers())) {
                face.put(method.getName(), method.getParameterCount());
            }
        }
        hold(told.equals(face), "the calls told are " + told + ", the face has " + face);
    }

    private static void constants(String readme) throws ReflectiveOperationException {
        Matcher constant = CONSTANT_IN_TABLE.matcher(readme);
        int constants = 0;
        while (constant.find()) {
            constants++;
            int value = ShadowRowDesk.class.getField(constant.group(1)).getInt(null);
            hold(value == Integer.parseInt(constant.group(2)), constant.group() + " is " + value);
        }
        hold(constants == 6, "constants told: " + constants);
    }
}
