import java.io.IOException;
import java.lang.reflect.Method;
import java.nio.file.Files;
import java.nio.file.Path;
import java.util.LinkedHashMap;
import java.util.Map;
import java.util.TreeSet;
import java.util.regex.Matcher;
import java.util.regex.Pattern;

/**
 * Each promise of the document has boundary tests that are named after it, and one at least for
 * each exception that it names. Promises tells how the names are made.
 */
public final class BoundaryCoverTest {
    private static final Due due = new Due("BoundaryCoverTest");
    private static final Class<?>[] SUITES = {MapBoundaryTest.class, FlightBoundaryTest.class,
        MapQueryBoundaryTest.class, PilotQueryBoundaryTest.class, ScoreBoundaryTest.class,
        ProgramBoundaryTest.class, OutputBoundaryTest.class, UndoBoundaryTest.class};
    private static final Map<String, String> KINDS = Map.of(
            "IllegalArgumentException", "argument", "IllegalStateException", "state",
            "IndexOutOfBoundsException", "index", "UnsupportedOperationException", "unsupported",
            "NoSuchElementException", "noElement", "ArithmeticException", "arithmetic");
    private static final Pattern HEADING = Pattern.compile("## Promise (\\d+): (.*)");
    private static final Pattern THROWS = Pattern.compile("Throws `(\\w+)` .*");
    private static final Pattern NAME = Pattern.compile(
            "(promise\\d\\d_\\w+?_)(argument|state|index|unsupported|noElement|arithmetic"
            + "|first|kept|edge|empty|full|late)_[a-z]\\w+");

    public static void main(String[] args) throws IOException {
        TreeSet<String> kinds = new TreeSet<>();
        TreeSet<String> promises = new TreeSet<>();
        for (Class<?> suite : SUITES) {
            for (Method test : Promises.testsOf(suite)) {
                Matcher name = NAME.matcher(test.getName());
                due.answer("the form of " + test.getName(), name.matches(), true);
                if (name.matches()) {
                    promises.add(name.group(1));
                    kinds.add(name.group(1) + name.group(2));
                }
            }
        }
        Map<String, TreeSet<String>> document = exceptionsByPromise();
        due.answer("the number of promises", document.size(), 55);
        due.answer("the promises that have tests", promises, new TreeSet<>(document.keySet()));
        for (Map.Entry<String, TreeSet<String>> promise : document.entrySet()) {
            for (String kind : promise.getValue()) {
                String beginning = promise.getKey() + kind;
                due.answer("a test for " + beginning, kinds.contains(beginning), true);
            }
        }
        due.finish();
    }

    /** How the names of a promise's tests begin, with the kinds of its exceptions. */
    private static Map<String, TreeSet<String>> exceptionsByPromise() throws IOException {
        Map<String, TreeSet<String>> promises = new LinkedHashMap<>();
        TreeSet<String> exceptions = new TreeSet<>();
        for (String line : Files.readAllLines(Path.of("../shared/DOC.md"))) {
            Matcher heading = HEADING.matcher(line);
            Matcher refusal = THROWS.matcher(line);
            if (heading.matches()) {
                exceptions = new TreeSet<>();
                promises.put(prefix(Integer.parseInt(heading.group(1)), heading.group(2)),
                        exceptions);
            } else if (refusal.matches()) {
                exceptions.add(KINDS.get(refusal.group(1)));
            }
        }
        return promises;
    }

    private static String prefix(int number, String title) {
        String method = number == 1 ? "newObject" : title;
        return String.format("promise%02d_%s_", number, method);
    }
}
