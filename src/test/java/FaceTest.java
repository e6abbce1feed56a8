import java.io.IOException;
import java.lang.reflect.Constructor;
import java.lang.reflect.Field;
import java.lang.reflect.Method;
import java.lang.reflect.Modifier;
import java.nio.file.Files;
import java.nio.file.Path;
import java.util.Set;
import java.util.TreeSet;
import java.util.regex.Matcher;
import java.util.regex.Pattern;

/** The face is the document's and no more, and the source keeps to what of ../shared/LANGUAGE.md can be read off it. */
public final class FaceTest {
    private static final Due DUE = new Due();
    private static final Path DOCUMENT = Path.of("../shared/DOC.md");
    private static final Pattern METHOD = Pattern.compile("public (int|long) (\\w+)\\(([^)]*)\\);");
    private static final Pattern CONSTANT = Pattern.compile("([A-Z]+) = (-?\\d+)");
    private static final String[] RULED_OUT = {
        "import ", "package ", "->", "::", "try ", "try{", "catch", "finally", "throw", "synchronized", "assert ", "@",
        "Exact", "hashCode", "toString", ".equals", "System.out", "System.nano", "System.current", "random", "Thread.", "new Thread",
        "static {", "protected ", "native ", "volatile ", "double", "float"};

    private static String told(Method m) {
        StringBuilder text = new StringBuilder(m.getReturnType().getName()).append(' ').append(m.getName()).append('(');
        for (int i = 0; i < m.getParameterCount(); i++) {
            text.append(i > 0 ? "," : "").append(m.getParameterTypes()[i].getName());
        }
        return text.append(')').toString();
    }

    private static String faceOfDocument() throws IOException {
        String document = Files.readString(DOCUMENT);
        int from = document.indexOf("```java");
        int to = document.indexOf("```", from + 3);
        return from < 0 || to < 0 ? "" : document.substring(from, to);
    }

    private static Set<String> methodsOf(String face) {
        Set<String> methods = new TreeSet<>();
        for (Matcher m = METHOD.matcher(face); m.find();) {
            methods.add(m.group(1) + " " + m.group(2) + "(" + m.group(3).replaceAll("int \\w+", "int").replace(" ", "") + ")");
        }
        return methods;
    }

    private static void constants(Class<RopeVote> c, String face) throws IllegalAccessException {
        Set<String> due = new TreeSet<>();
        for (Matcher m = CONSTANT.matcher(face); m.find();) due.add("public static final int " + m.group(1) + " = " + m.group(2));
        Set<String> fields = new TreeSet<>();
        for (Field f : c.getDeclaredFields()) {
            if (Modifier.isPrivate(f.getModifiers())) continue;
            fields.add(Modifier.toString(f.getModifiers()) + " " + f.getType() + " " + f.getName() + " = " + f.get(null));
        }
        DUE.is("how many constants the document has", due.size(), 5);
        DUE.holds("the constants are the document's: " + fields, fields.equals(due));
    }

    private static void face() throws IOException, IllegalAccessException {
        String due = faceOfDocument();
        Class<RopeVote> c = RopeVote.class;
        DUE.holds("the class is public and final", Modifier.isPublic(c.getModifiers()) && Modifier.isFinal(c.getModifiers()));
        Set<String> open = new TreeSet<>();
        Set<String> names = new TreeSet<>();
        for (Method m : c.getDeclaredMethods()) {
            DUE.holds("seven parameters at most: " + m, m.getParameterCount() <= 7);
            if (Modifier.isPrivate(m.getModifiers())) continue;
            DUE.holds(m + " is public, and of the object", m.getModifiers() == Modifier.PUBLIC);
            open.add(told(m));
            names.add(m.getName());
        }
        DUE.is("how many methods the document has", methodsOf(due).size(), 25);
        DUE.holds("the methods are the document's: " + open, open.equals(methodsOf(due)));
        constants(c, due);
        Constructor<?>[] made = c.getDeclaredConstructors();
        DUE.holds("one public constructor", made.length == 1 && Modifier.isPublic(made[0].getModifiers())
                && made[0].getParameterCount() == 0);
        for (Method m : c.getDeclaredMethods()) {
            if (Modifier.isPrivate(m.getModifiers())) DUE.holds("no name of the face for " + m, !names.contains(m.getName()));
        }
        inside(c, names);
    }

    private static void inside(Class<?> c, Set<String> names) {
        DUE.holds("twelve classes at most", c.getDeclaredClasses().length + 1 <= 12);
        for (Class<?> in : c.getDeclaredClasses()) {
            DUE.holds(in + " is static", Modifier.isStatic(in.getModifiers()));
            DUE.holds(in + " has twenty fields at most", in.getDeclaredFields().length <= 20);
            for (Method m : in.getDeclaredMethods()) DUE.holds("no name of the face for " + m, !names.contains(m.getName()));
        }
    }

    private static String withoutComments(String source) {
        return source.replaceAll("(?s)/\\*.*?\\*/", "").replaceAll("//[^\n]*", "");
    }

    private static void source() throws IOException {
        String code = withoutComments(Files.readString(Path.of("src/main/java/RopeVote.java")));
        for (String word : RULED_OUT) DUE.holds("the source has no '" + word + "'", !code.contains(word));
        int lines = 0;
        for (String line : code.split("\n")) {
            boolean begins = line.matches(" {4,8}[a-zA-Z].*\\) \\{");
            lines = begins ? 0 : lines + 1;
            if (line.matches(" {4}( {4})?\\}")) DUE.holds("methods have sixty lines at most: " + lines, lines <= 60 || line.matches(" {4}\\}"));
        }
        for (int i = 0; i < code.length(); i++) {
            if (code.charAt(i) > 126) DUE.holds("the source is plain ASCII", false);
        }
    }

    public static void main(String[] args) throws IOException, IllegalAccessException {
        face();
        source();
        DUE.end("FaceTest");
    }
}
