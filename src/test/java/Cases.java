import java.io.IOException;
import java.lang.reflect.InvocationTargetException;
import java.lang.reflect.Method;
import java.nio.file.Files;
import java.nio.file.Path;
import java.util.ArrayList;
import java.util.Comparator;
import java.util.List;
import java.util.regex.Pattern;

/**
 * Finds and runs boundary cases: static methods that bear the document's words (Says), and are named after the
 * promise and the case, as promise06_feedBeyond400IsRefused. They are found, not listed, so none is forgotten.
 */
final class Cases {
    private static final Path DOCUMENT = Path.of("../shared/DOC.md");
    private static final Pattern NAME = Pattern.compile("promise(\\d\\d)_\\w+");

    private Cases() {
    }

    static List<Method> of(Class<?> tests) {
        List<Method> cases = new ArrayList<>();
        for (Method m : tests.getDeclaredMethods()) {
            if (m.isAnnotationPresent(Says.class) || m.getName().startsWith("promise")) {
                cases.add(m);
            }
        }
        cases.sort(Comparator.comparing(Method::getName));
        return cases;
    }

    /** The promise after which a case is named; 0 if it is not. */
    static int promiseOf(Method test) {
        var name = NAME.matcher(test.getName());
        return name.matches() ? Integer.parseInt(name.group(1)) : 0;
    }

    static void run(Class<?> tests, Check check) {
        for (Method test : of(tests)) {
            check.about(test.getName());
            int before = check.done();
            try {
                test.invoke(null);
            } catch (InvocationTargetException e) {
                e.getCause().printStackTrace(System.out);
                check.due("throws", true, false);
            } catch (IllegalAccessException e) {
                check.due("can't be called", true, false);
            }
            check.due("looks at something", check.done() > before, true);
        }
        check.finish();
    }

    static void quotesStand(Method test, String document, Check check) {
        Says says = test.getAnnotation(Says.class);
        check.due("bears the document's words", says != null && says.value().length > 0, true);
        if (says != null) {
            for (String words : says.value()) {
                check.due("'" + words + "' stands in the document", document.contains(words), true);
            }
        }
    }

    static String document() throws IOException {
        return Files.readString(DOCUMENT).replaceAll("\\s+", " ");
    }
}
