import java.io.IOException;
import java.lang.reflect.Method;
import java.util.List;
import java.util.Set;
import java.util.TreeSet;

/** Each promise has boundary cases, each case is named after its promise, and what it quotes is the document's. */
public final class BoundaryIndexTest {
    private static final List<Class<?>> TESTS = List.of(BoundaryTellTest.class, BoundaryTapeTest.class,
        BoundaryMinutesTest.class, BoundaryCountsTest.class, BoundaryThoughtsTest.class, BoundaryImageTest.class);
    private static final int PROMISES = 31;
    private static final Check check = new Check();

    public static void main(String[] args) throws IOException {
        String document = Cases.document();
        Set<Integer> promised = new TreeSet<>();
        for (Class<?> tests : TESTS) {
            for (Method test : Cases.of(tests)) {
                check.about(test.getName());
                int promise = Cases.promiseOf(test);
                check.due("named after a promise", promise >= 1 && promise <= PROMISES, true);
                promised.add(promise);
                Cases.quotesStand(test, document, check);
            }
        }
        check.about("all promises");
        for (int promise = 1; promise <= PROMISES; promise++) {
            check.due("promise " + promise + " has a case", promised.contains(promise), true);
            check.due("promise " + promise + " stands", document.contains("## Promise " + promise + ":"), true);
        }
        check.due("no more promises", document.contains("## Promise " + (PROMISES + 1)), false);
        check.finish();
    }
}
