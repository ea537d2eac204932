import java.lang.reflect.Field;
import java.lang.reflect.Method;
import java.lang.reflect.Modifier;
import java.nio.file.Files;
import java.nio.file.Path;
import java.util.ArrayList;
import java.util.List;
import java.util.regex.Matcher;
import java.util.regex.Pattern;
import java.util.stream.Stream;

/** README.md: its example answers as it says, and it tells of all calls, constants and tests. */
public final class ReadmeTest {
    private static final Due DUE = new Due();
    private static final Pattern FED = Pattern.compile("feed\\(x, \"([^\"]*)\"\\);\\s+// (-?\\d+)(?:: .*)?");
    private static final Pattern CALL = Pattern.compile("x\\.(\\w+)\\(([^)]*)\\);\\s+// (-?\\d+)(?:: .*)?");

    public static void main(String[] args) throws Exception {
        String readme = Files.readString(Path.of("README.md"));
        List<String> blocks = blocks(readme);
        DUE.is("blocks of Java", blocks.size(), 2);
        helperIsTheTests(blocks.get(0));
        exampleAnswersAsItSays(blocks.get(1));
        tellsOfEachCall(readme);
        tellsOfEachConstant(readme);
        tellsOfEachTest(readme);
        DUE.end("ReadmeTest");
    }

    private static List<String> blocks(String readme) {
        List<String> blocks = new ArrayList<>();
        Matcher m = Pattern.compile("(?s)```java\n(.*?)```").matcher(readme);
        while (m.find()) {
            blocks.add(m.group(1));
        }
        return blocks;
    }

    /** The helper is shown as the tests use it, so that it is one that works. */
    private static void helperIsTheTests(String helper) throws Exception {
        String tests = Files.readString(Path.of("src/test/java/Due.java"));
        DUE.holds("the helper is that of Due", plain(tests).contains(plain(helper)));
    }

    private static String plain(String text) {
        return text.replaceAll("\\s+", " ").trim();
    }

    private static void exampleAnswersAsItSays(String example) throws Exception {
        String[] lines = example.split("\n");
        DUE.holds("the first line makes the object", lines[0].equals("RingUntie x = new RingUntie();"));
        RingUntie x = new RingUntie();
        for (int i = 1; i < lines.length; i++) {
            Matcher fed = FED.matcher(lines[i]), call = CALL.matcher(lines[i]);
            if (fed.matches()) {
                DUE.is(lines[i], Due.feed(x, fed.group(1)), Integer.parseInt(fed.group(2)));
            } else if (call.matches()) {
                DUE.is(lines[i], answer(x, call.group(1), call.group(2)), Integer.parseInt(call.group(3)));
            } else {
                DUE.holds("a call with its answer: " + lines[i], false);
            }
        }
        DUE.holds("the example has some lines", lines.length > 20);
    }

    private static int answer(RingUntie x, String name, String numbers) throws Exception {
        String[] told = numbers.isEmpty() ? new String[0] : numbers.split(", ");
        for (Method method : RingUntie.class.getMethods()) {
            if (method.getName().equals(name) && method.getParameterCount() == told.length) {
                Object[] args = new Object[told.length];
                for (int i = 0; i < told.length; i++) {
                    if (method.getParameterTypes()[i] == long.class) {
                        args[i] = Long.valueOf(told[i]);
                    } else {
                        args[i] = Integer.valueOf(told[i]);
                    }
                }
                return (Integer) method.invoke(x, args);
            }
        }
        throw new IllegalStateException("no call " + name + "(" + numbers + ")");
    }

    private static void tellsOfEachCall(String readme) {
        int calls = 0;
        for (Method method : RingUntie.class.getDeclaredMethods()) {
            if (Modifier.isPublic(method.getModifiers())) {
                Matcher row = Pattern.compile("\\| `" + method.getName() + "\\(([^)]*)\\)` \\| [^|\n]+ \\|").matcher(readme);
                boolean found = row.find();
                DUE.holds(method.getName() + " has a row", found);
                String names = found ? row.group(1) : "";
                DUE.is(method.getName() + "'s arguments", names.isEmpty() ? 0 : names.split(", ").length,
                    method.getParameterCount());
                calls++;
            }
        }
        Matcher rows = Pattern.compile("\\| `\\w+\\([^)]*\\)` \\|").matcher(readme);
        DUE.is("rows of calls", rows.results().count(), calls);
    }

    private static void tellsOfEachConstant(String readme) throws Exception {
        for (Field field : RingUntie.class.getFields()) {
            DUE.holds(field.getName() + " has a row with its value",
                readme.contains("| `" + field.getName() + "` | " + field.getInt(null) + " |"));
        }
    }

    private static void tellsOfEachTest(String readme) throws Exception {
        try (Stream<Path> files = Files.list(Path.of("src/test/java"))) {
            for (Path file : (Iterable<Path>) files::iterator) {
                String name = file.getFileName().toString().replace(".java", "");
                if (name.endsWith("Test")) {
                    DUE.holds("the test " + name + " is told", readme.contains("`" + name + "`"));
                }
            }
        }
        DUE.holds("how to run them", readme.contains("\n.ci/run\n"));
    }
}
