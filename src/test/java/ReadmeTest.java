import java.io.IOException;
import java.lang.reflect.Method;
import java.lang.reflect.Modifier;
import java.nio.file.Files;
import java.nio.file.Path;
import java.util.List;
import java.util.Map;
import java.util.Set;
import java.util.TreeMap;
import java.util.TreeSet;
import java.util.regex.Matcher;
import java.util.regex.Pattern;
import java.util.stream.Collectors;
import java.util.stream.Stream;

/**
 * Makes the calls that README.md shows and holds the answers against what stands behind them. A line
 * of a java block that can't be read so is a fault too: else it would stand there untested.
 */
public final class ReadmeTest {
    private static final Path PAGE = Path.of("README.md");
    private static final Path TESTS = Path.of("src/test/java");
    private static final Pattern NEW = Pattern.compile("FortyStems x = new FortyStems\\(\\);");
    private static final Pattern CALL = Pattern.compile("x\\.(\\w+)\\(([-0-9, ]*)\\); *// (-?\\d+|[A-Z]+)(:.*)?");
    private static final Pattern FEED =
        Pattern.compile("for \\(char c : \"([^\"]*)\"\\.toCharArray\\(\\)\\) x\\.feed\\(c\\); // (\\d+)(:.*)?");
    private static final Map<String, Long> WORDS = Map.of("NONE", -1L, "BAD", -2L, "STATE", -3L, "FULL", -4L,
        "NO", -4611686018427387904L);

    private static final Map<String, Method> face = new TreeMap<>();
    private static final Set<String> shown = new TreeSet<>();
    private static FortyStems x = null;
    private static int asked = 0;
    private static int wrong = 0;

    public static void main(String[] args) throws Exception {
        for (Method method : FortyStems.class.getDeclaredMethods()) {
            if (Modifier.isPublic(method.getModifiers())) {
                face.put(method.getName(), method);
            }
        }
        List<String> page = Files.readAllLines(PAGE);
        blocks(page);
        if (!shown.equals(face.keySet())) {
            fault("the calls that are shown are " + shown + ", those that there are " + face.keySet());
        }
        testsNamed(page);
        System.out.println(asked + " answers of README.md asked, " + wrong + " wrong");
        if (wrong != 0) {
            System.exit(1);
        }
    }

    private static void fault(String what) {
        wrong++;
        System.out.println("README.md: " + what);
    }

    private static void blocks(List<String> page) throws Exception {
        boolean inside = false;
        for (String line : page) {
            if (line.startsWith("```")) {
                inside = line.equals("```java");
            } else if (inside) {
                line(line);
            }
        }
        if (inside) {
            fault("a block has no end");
        }
    }

    private static void line(String line) throws Exception {
        if (NEW.matcher(line).matches()) {
            x = new FortyStems();
            return;
        }
        Matcher call = CALL.matcher(line);
        Matcher feed = FEED.matcher(line);
        if (x != null && call.matches() && face.containsKey(call.group(1))) {
            due(line, answer(call.group(1), call.group(2)), call.group(3));
        } else if (x != null && feed.matches()) {
            shown.add("feed");
            long last = 0;
            for (char c : feed.group(1).toCharArray()) {
                last = x.feed(c);
            }
            due(line, last, feed.group(2));
        } else {
            fault("no call and answer: " + line);
        }
    }

    private static long answer(String name, String list) throws Exception {
        shown.add(name);
        Object[] values = list.isEmpty() ? new Object[0]
            : Stream.of(list.split(",")).map(v -> (Object) Integer.valueOf(v.trim())).toArray();
        return ((Number) face.get(name).invoke(x, values)).longValue();
    }

    private static void due(String line, long got, String want) {
        asked++;
        boolean isWord = WORDS.containsKey(want);
        if (!isWord && !want.matches("-?\\d+") || got != (isWord ? WORDS.get(want) : Long.parseLong(want))) {
            fault(line + " answered " + got);
        }
    }

    /** Every test of the project has its line, and no line is of a test that is gone. */
    private static void testsNamed(List<String> page) throws IOException {
        Set<String> named = new TreeSet<>();
        for (String line : page) {
            Matcher m = Pattern.compile("- `(\\w+)`: .*").matcher(line);
            if (m.matches()) {
                named.add(m.group(1) + ".java");
            }
        }
        try (Stream<Path> files = Files.list(TESTS)) {
            Set<String> there = files.map(f -> f.getFileName().toString()).collect(Collectors.toSet());
            if (!named.equals(there)) {
                fault("the tests named are " + named + ", those that there are " + there);
            }
        }
    }
}
