import java.io.IOException;
import java.lang.reflect.Method;
import java.lang.reflect.Modifier;
import java.nio.file.Files;
import java.nio.file.Path;
import java.util.ArrayDeque;
import java.util.Deque;
import java.util.List;
import java.util.stream.Stream;

/** What README.md says: its example answers as it stands there, and no call and no test is left out. */
public final class ReadmeTest {
    private static final Check check = new Check();
    private static String page;
    private static final Deque<String> example = new ArrayDeque<>();

    public static void main(String[] args) throws IOException {
        page = Files.readString(Path.of("README.md"));
        String block = page.substring(page.indexOf("```java\n") + 8);
        block.substring(0, block.indexOf("```")).lines().filter(l -> l.startsWith("x.")).forEach(example::add);
        example();
        check.due("lines of the example that were not run", example.size(), 0);
        callsAreNamed();
        testsAreNamed();
        check.finish();
    }

    private static void example() {
        OneEye x = new OneEye();
        shows("x.three(2, 0);", x.three(2, 0));
        shows("x.three(1, 0);", x.three(1, 0));
        shows("x.fact(3, true);", x.fact(3, true));
        shows("x.feed(0x73656520, 0x333b7361, 0x79203320, 0x746f2031, 0x3b202020);",
            x.feed(0x73656520, 0x333b7361, 0x79203320, 0x746f2031, 0x3b202020));
        shows("x.end(17);", x.end(17));
        shows("x.text(0);", x.text(0));
        shows("x.image(true);", x.image(true));
        shows("x.minutes(2);", x.minutes(2));
        shows("x.knows(3, 3);", x.knows(3, 3));
        shows("x.origin(3, 3, 0);", x.origin(3, 3, 0));
        shows("x.book(0, 3);", x.book(0, 3));
        shows("x.talk(0, 1, 3);", x.talk(0, 1, 3));
        shows("x.image(false);", x.image(false));
        shows("x.knows(3, 3);", x.knows(3, 3));
        shows("x.errand(0, 3, 1, 0);", x.errand(0, 3, 1, 0));
        shows("x.end(0);", x.end(0));
        shows("x.feed(0x73656520, 0x37373b20, 0x20202020, 0x20202020, 0x20202020);",
            x.feed(0x73656520, 0x37373b20, 0x20202020, 0x20202020, 0x20202020));
        shows("x.text(0);", x.text(0));
        shows("x.fault(0);", x.fault(0));
        shows("x.fault(1);", x.fault(1));
    }

    /** The example's next line is this call, and the page says this answer behind it. */
    private static void shows(String call, Object answer) {
        check.about("the example");
        String line = example.isEmpty() ? "" : example.removeFirst();
        String[] parts = line.split("\\s+// ", 2);
        check.due(call + " stands there, not " + line, parts[0].equals(call), true);
        String said = parts.length < 2 ? "" : parts[1].split(":", 2)[0];
        check.due(call + " answers " + answer + ", the page says " + said, said.equals(answer.toString()), true);
    }

    private static void callsAreNamed() {
        check.about("the calls");
        for (Method m : OneEye.class.getDeclaredMethods()) {
            if (Modifier.isPublic(m.getModifiers())) {
                check.due("`" + m.getName() + "` is named", page.contains("`" + m.getName() + "`"), true);
            }
        }
    }

    private static void testsAreNamed() throws IOException {
        check.about("the tests");
        try (Stream<Path> files = Files.list(Path.of("src/test/java"))) {
            List<String> names = files.map(f -> f.getFileName().toString().replace(".java", "")).toList();
            for (String name : names) {
                boolean named = page.contains("\n| `" + name + "` |");
                check.due("`" + name + "` has a row", named, name.endsWith("Test"));
            }
        }
        check.due(".ci/run is named", page.contains("`.ci/run`"), true);
    }
}
