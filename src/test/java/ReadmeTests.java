import java.io.File;
import java.io.IOException;
import java.lang.reflect.InvocationTargetException;
import java.lang.reflect.Method;
import java.lang.reflect.Modifier;
import java.nio.file.Files;
import java.nio.file.Path;
import java.util.HashMap;
import java.util.List;
import java.util.Map;
import java.util.regex.Matcher;
import java.util.regex.Pattern;

/** The example in README.md answers what it says, and README.md names each call of the class and each test. */
public final class ReadmeTests {
    private static final Pattern MADE = Pattern.compile("WishLedger x = new WishLedger\\(\\);.*");
    private static final Pattern CALL = Pattern.compile("(?:int (\\w+) = )?x\\.(\\w+)\\((.*?)\\); *(?://(.*))?");
    private static final Pattern DUE = Pattern.compile(" -> ([^:]+)(?::.*)?");

    private static int wrong = 0;
    private static int answers = 0;

    private final Map<String, Integer> names = new HashMap<>();
    private WishLedger ledger;

    private ReadmeTests() {
        names.put("WishLedger.NONE", WishLedger.NONE);
    }

    private static void complain(String what) {
        wrong++;
        System.out.println(what);
    }

    private static Method named(String name) {
        for (Method m : WishLedger.class.getDeclaredMethods()) {
            if (Modifier.isPublic(m.getModifiers()) && m.getName().equals(name)) {
                return m;
            }
        }
        throw new IllegalArgumentException("no such call: " + name);
    }

    private Object[] valuesOf(String written) {
        String[] parts = written.isEmpty() ? new String[0] : written.split(", ");
        Object[] values = new Object[parts.length];
        for (int i = 0; i < parts.length; i++) {
            Integer value = names.get(parts[i]);
            values[i] = value != null ? value : Integer.valueOf(parts[i]);
        }
        return values;
    }

    private void follow(String line) throws IllegalAccessException, InvocationTargetException {
        if (line.isEmpty()) {
            return;
        }
        if (MADE.matcher(line).matches()) {
            ledger = new WishLedger();
            return;
        }
        Matcher call = CALL.matcher(line);
        if (!call.matches()) {
            complain("README.md: not a call: " + line);
            return;
        }
        Object answer = named(call.group(2)).invoke(ledger, valuesOf(call.group(3)));
        if (call.group(1) != null) {
            names.put(call.group(1), (Integer) answer);
        }
        Matcher due = DUE.matcher(call.group(4) == null ? "" : call.group(4));
        if (due.matches()) {
            answers++;
            if (!due.group(1).equals(String.valueOf(answer))) {
                complain("README.md: " + line + " - but the answer was " + answer);
            }
        }
    }

    private static void example(List<String> lines) throws IllegalAccessException, InvocationTargetException {
        int from = lines.indexOf("```java") + 1;
        int to = from + lines.subList(from, lines.size()).indexOf("```");
        ReadmeTests reader = new ReadmeTests();
        for (String line : lines.subList(from, to)) {
            reader.follow(line);
        }
    }

    private static void names(String text) {
        for (Method m : WishLedger.class.getDeclaredMethods()) {
            if (Modifier.isPublic(m.getModifiers())) {
                if (!text.contains("\n| `" + m.getName() + "(")) {
                    complain("README.md: no row for " + m.getName());
                }
                if (!text.contains("x." + m.getName() + "(")) {
                    complain("README.md: not in the example: " + m.getName());
                }
            }
        }
        File[] tests = new File("src/test/java").listFiles();
        for (File test : tests == null ? new File[0] : tests) {
            if (!text.contains("\n- `" + test.getName().replace(".java", "") + "`: ")) {
                complain("README.md: nothing about " + test.getName());
            }
        }
        if (!text.contains("\n    .ci/run\n")) {
            complain("README.md: nothing about .ci/run");
        }
    }

    public static void main(String[] args) throws IOException, ReflectiveOperationException {
        String text = Files.readString(Path.of("README.md"));
        example(List.of(text.split("\n")));
        names(text);
        if (answers == 0) {
            complain("README.md: no answer in the example");
        }
        System.out.println(answers + " answers of README.md, " + wrong + " things wrong");
        if (wrong != 0) {
            System.exit(1);
        }
    }
}
