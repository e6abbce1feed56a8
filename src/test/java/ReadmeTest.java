import java.io.IOException;
import java.nio.file.Files;
import java.nio.file.Path;
import java.util.regex.Matcher;
import java.util.regex.Pattern;

/** What README.md tells of the calls is so: each answer in its example, and that it leaves out no call of the face. */
public final class ReadmeTest {
    private static final Pattern WRITTEN = Pattern.compile("\"([^\"]+)\"\\.toCharArray");
    private static final Pattern CALL = Pattern.compile("(?m)^x\\.(\\w+)\\(([^)]*)\\);\\s*// (-?\\d+)(.*)$");
    private static final Due DUE = new Due();

    private static String blockOf(String readme) {
        int from = readme.indexOf("```java");
        int to = readme.indexOf("```", from + 3);
        return from < 0 || to < 0 ? "" : readme.substring(from, to);
    }

    private static long called(RopeVote x, String name, String told) throws ReflectiveOperationException {
        String[] parts = told.isBlank() ? new String[0] : told.split(",");
        Object[] arguments = new Object[parts.length];
        Class<?>[] types = new Class<?>[parts.length];
        for (int i = 0; i < parts.length; i++) {
            arguments[i] = Integer.parseInt(parts[i].trim());
            types[i] = int.class;
        }
        return ((Number) RopeVote.class.getMethod(name, types).invoke(x, arguments)).longValue();
    }

    private static void example(String block) throws ReflectiveOperationException {
        Matcher written = WRITTEN.matcher(block);
        DUE.holds("the example writes a rope", written.find());
        RopeVote x = new RopeVote();
        Due.write(x, written.group(1));
        int calls = 0;
        for (Matcher m = CALL.matcher(block); m.find(); calls++) {
            DUE.is(m.group(1) + "(" + m.group(2) + ")", called(x, m.group(1), m.group(2)), Long.parseLong(m.group(3)));
        }
        DUE.holds("the example tells what calls answer", calls > 0);
        DUE.is("lines of the example that are looked at", calls, block.lines().filter(line -> line.contains("//")).count());
    }

    private static void everyCall(String readme) {
        for (var method : RopeVote.class.getDeclaredMethods()) {
            if (!java.lang.reflect.Modifier.isPublic(method.getModifiers())) continue;
            DUE.holds("README.md names " + method.getName() + "()", readme.contains("`" + method.getName() + "("));
        }
    }

    public static void main(String[] args) throws IOException, ReflectiveOperationException {
        String readme = Files.readString(Path.of("README.md"));
        example(blockOf(readme));
        everyCall(readme);
        DUE.end("ReadmeTest");
    }
}
