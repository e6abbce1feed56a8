import java.io.IOException;
import java.lang.reflect.InvocationTargetException;
import java.lang.reflect.Method;
import java.nio.file.Files;
import java.nio.file.Path;
import java.util.Arrays;
import java.util.Comparator;

/**
 * Each sentence of the document that names a boundary case, by a test of its own. Each test quotes the words it holds
 * the class to; that they stand in the document, and that no promise and no refusal of one is left out, is tested too.
 */
public final class BoundaryTest {
    private static final Class<?>[] WHERE = {PageEdges.class, MusselEdges.class, DoneEdges.class, WouldEdges.class,
        SeenEdges.class, AllEdges.class};
    private static final String[] REFUSALS = {"NONE", "UNKNOWN", "OUTSIDE", "STATE", "FULL"};
    private static final int[] ANSWERS = {-1, -101, -102, -103, -104};
    private static final int PROMISES = 26;

    private static final Due DUE = new Due();
    private static final boolean[] TESTED = new boolean[PROMISES + 1];
    private static final boolean[][] REFUSED = new boolean[PROMISES + 1][REFUSALS.length];

    private static Method[] testsOf(Class<?> where) {
        Method[] tests = where.getDeclaredMethods();
        Arrays.sort(tests, Comparator.comparing(Method::getName));
        return tests;
    }

    private static void run(Method test, Edge edge, String document) throws IllegalAccessException {
        String name = "promise " + edge.promise() + ", " + test.getName();
        DUE.holds(name + ": '" + edge.says() + "' stands in the document", document.contains(edge.says()));
        Due own = new Due(name + ": ");
        try {
            test.invoke(null, own);
        } catch (InvocationTargetException e) {
            own.holds("nothing is thrown, but " + e.getCause(), false);
        }
        DUE.holds(name, own.anyLookedAt() && !own.anyWrong());
        TESTED[edge.promise()] = true;
        for (int i = 0; i < REFUSALS.length; i++) REFUSED[edge.promise()][i] |= own.wanted(ANSWERS[i]);
    }

    private static String sectionOf(String document, int promise) {
        int from = document.indexOf("## Promise " + promise + ":");
        int to = document.indexOf("## ", from + 3);
        return from < 0 || to < 0 ? "" : document.substring(from, to);
    }

    private static void nothingLeftOut(String document) {
        for (int promise = 1; promise <= PROMISES; promise++) {
            String section = sectionOf(document, promise);
            DUE.holds("promise " + promise + " stands in the document", !section.isEmpty());
            DUE.holds("promise " + promise + " has a test", TESTED[promise]);
            for (int i = 0; i < REFUSALS.length; i++) {
                if (!section.contains(REFUSALS[i])) continue;
                DUE.holds("promise " + promise + " has a test of " + REFUSALS[i], REFUSED[promise][i]);
            }
        }
    }

    public static void main(String[] args) throws IOException, IllegalAccessException {
        String document = Files.readString(Path.of("../shared/DOC.md"));
        int tests = 0;
        for (Class<?> where : WHERE) {
            for (Method test : testsOf(where)) {
                Edge edge = test.getAnnotation(Edge.class);
                if (edge == null) continue;
                test.setAccessible(true);
                run(test, edge, document);
                tests++;
            }
        }
        nothingLeftOut(document);
        System.out.println("BoundaryTest: " + tests + " boundary cases");
        DUE.end("BoundaryTest");
    }
}
