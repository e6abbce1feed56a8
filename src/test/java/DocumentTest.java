import java.io.IOException;
import java.lang.reflect.InvocationTargetException;
import java.lang.reflect.Method;
import java.nio.file.Files;
import java.nio.file.Path;
import java.util.Arrays;
import java.util.Comparator;

/**
 * The document's sentences, each by tests that quote it: ordinary inputs in the ..Sentences, boundary cases in the ..Edges.
 * That what is quoted stands in the document, and that no word of it, no promise and no refusal is left out, is tested too.
 */
public final class DocumentTest {
    private static final Class<?>[] WHERE = {TermSentences.class, CallSentences.class, PageEdges.class, MusselEdges.class,
        DoneEdges.class, WouldEdges.class, SeenEdges.class, AllEdges.class};
    private static final String[] REFUSALS = {"NONE", "UNKNOWN", "OUTSIDE", "STATE", "FULL"};
    private static final int[] ANSWERS = {-1, -101, -102, -103, -104};
    private static final int PROMISES = 26;
    private static final int TERMS = 0;
    // What is no promise, or is FaceTest's: headings, the face, the groups of calls, signatures, fences, the sections' marks.
    private static final String NO_SENTENCE = "(?m)^## .*$|(?s:```java.*?```)|^Ahead of the calls .*$|^`[^`]+`:|^```.*$|=+ \\d";

    private static final Due DUE = new Due();
    private static final boolean[] TESTED = new boolean[PROMISES + 1];
    private static final boolean[][] REFUSED = new boolean[PROMISES + 1][REFUSALS.length];

    private static Method[] testsOf(Class<?> where) {
        Method[] tests = where.getDeclaredMethods();
        Arrays.sort(tests, Comparator.comparing(Method::getName));
        return tests;
    }

    private static void run(Method test, Holds holds, String document) throws IllegalAccessException {
        String name = "promise " + holds.promise() + ", " + test.getName();
        DUE.holds(name + ": '" + holds.says() + "' stands in the document", document.contains(holds.says()));
        Due own = new Due(name + ": ");
        try {
            test.invoke(null, own);
        } catch (InvocationTargetException e) {
            own.holds("nothing is thrown, but " + e.getCause(), false);
        }
        DUE.holds(name, own.anyLookedAt() && !own.anyWrong());
        TESTED[holds.promise()] = true;
        for (int i = 0; i < REFUSALS.length; i++) REFUSED[holds.promise()][i] |= own.wanted(ANSWERS[i]);
    }

    private static String sectionOf(String document, int promise) {
        int from = document.indexOf("## Promise " + promise + ":");
        int to = document.indexOf("## ", from + 3);
        return from < 0 || to < 0 ? "" : document.substring(from, to);
    }

    private static String termsOf(String document) {
        int from = document.indexOf("======== 1");
        int to = document.indexOf("## Promise 1:");
        return from < 0 || to < from ? "" : document.substring(from, to);
    }

    private static void nothingLeftOut(String document) {
        for (int promise = 1; promise <= PROMISES; promise++) {
            String section = sectionOf(document, promise);
            DUE.holds("promise " + promise + " stands in the document", !section.isEmpty());
            DUE.holds("promise " + promise + " has a test", TESTED[promise]);
            for (int i = 0; i < REFUSALS.length; i++) {
                if (!section.contains(REFUSALS[i])) continue;
                DUE.holds("promise " + promise + " has a test of " + REFUSALS[i], REFUSED[promise][i]);
            }
        }
    }

    /** Each letter that is quoted becomes a blank; quotes may overlap, so they are looked for in the text as it was. */
    private static String withoutQuoted(String text, String left, String says) {
        StringBuilder then = new StringBuilder(left);
        for (int at = text.indexOf(says); at >= 0; at = text.indexOf(says, at + 1)) {
            for (int i = at; i < at + says.length(); i++) then.setCharAt(i, ' ');
        }
        return then.toString();
    }

    private static String notQuoted(int promise, String text) {
        String left = text;
        for (Class<?> where : WHERE) {
            for (Method test : testsOf(where)) {
                Holds holds = test.getAnnotation(Holds.class);
                boolean ofIt = holds != null && (promise == TERMS || promise == holds.promise());
                if (ofIt) left = withoutQuoted(text, left, holds.says());
            }
        }
        return left.replaceAll(NO_SENTENCE, " ").replaceAll("[\\s:]+", " ").trim();
    }

    private static void noWordLeftOut(String document) {
        String terms = termsOf(document);
        DUE.holds("the terms stand in the document", !terms.isEmpty());
        DUE.is("the terms: no test quotes '" + notQuoted(TERMS, terms) + "', its length", notQuoted(TERMS, terms).length(), 0);
        for (int promise = 1; promise <= PROMISES; promise++) {
            String left = notQuoted(promise, sectionOf(document, promise));
            DUE.is("promise " + promise + ": no test quotes '" + left + "', its length", left.length(), 0);
        }
    }

    public static void main(String[] args) throws IOException, IllegalAccessException {
        String document = Files.readString(Path.of("../shared/DOC.md"));
        int tests = 0;
        for (Class<?> where : WHERE) {
            for (Method test : testsOf(where)) {
                Holds holds = test.getAnnotation(Holds.class);
                if (holds == null) continue;
                test.setAccessible(true);
                run(test, holds, document);
                tests++;
            }
        }
        nothingLeftOut(document);
        noWordLeftOut(document);
        System.out.println("DocumentTest: " + tests + " tests that quote the document");
        DUE.end("DocumentTest");
    }
}
