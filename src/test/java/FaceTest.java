import java.lang.reflect.Constructor;
import java.lang.reflect.Field;
import java.lang.reflect.Member;
import java.lang.reflect.Method;
import java.lang.reflect.Modifier;
import java.nio.file.Files;
import java.nio.file.Path;
import java.util.ArrayList;
import java.util.Arrays;
import java.util.List;
import java.util.TreeSet;

/** The public face is the document's code block, no more and no less; and the plain rules of LANGUAGE.md. */
public final class FaceTest {
    private static final String[] FORBIDDEN = {
        "import ", "package ", "->", "::", "synchronized", "assert ", "finally", "System.out", "catch (",
        "Exact(", "Random", "currentTimeMillis", "nanoTime", "protected ", "@Override", "record ", "var "};

    public static void main(String[] args) throws Exception {
        Path source = Path.of(args.length > 0 ? args[0] : "src/main/java/BeggarKings.java");
        Path document = Path.of(args.length > 1 ? args[1] : "../shared", "DOC.md");
        theFaceIsTheDocuments(document);
        nothingElseIsVisible();
        theSourceKeepsToThePlainRules(Files.readString(source));
        Check.finish();
    }

    private static void theFaceIsTheDocuments(Path document) throws Exception {
        TreeSet<String> due = new TreeSet<>();
        boolean inFace = false;
        for (String line : Files.readAllLines(document)) {
            if (line.startsWith("```")) {
                inFace = line.equals("```java");
            } else if (inFace && line.startsWith("    public ")) {
                due.add(line.trim().replaceAll("(\\w+) [a-z]\\w*(?=[,)])", "$1"));
            }
        }
        TreeSet<String> got = new TreeSet<>();
        for (Constructor<?> c : BeggarKings.class.getConstructors()) {
            got.add("public BeggarKings" + types(c.getParameterTypes()) + ";");
        }
        for (Method m : BeggarKings.class.getDeclaredMethods()) {
            if (Modifier.isPublic(m.getModifiers())) {
                got.add(signature(m));
            }
        }
        Check.same("the number of promises", due.size(), 63);
        Check.same("the face", String.join("\n", got), String.join("\n", due));
    }

    private static String signature(Method m) {
        List<String> thrown = new ArrayList<>();
        for (Class<?> c : m.getExceptionTypes()) {
            thrown.add(c.getSimpleName());
        }
        String tail = thrown.isEmpty() ? "" : " throws " + String.join(", ", thrown);
        return "public " + m.getReturnType() + " " + m.getName() + types(m.getParameterTypes()) + tail + ";";
    }

    private static String types(Class<?>[] types) {
        return "(" + String.join(", ", Arrays.stream(types).map(Class::getName).toArray(String[]::new)) + ")";
    }

    private static void nothingElseIsVisible() {
        int modifiers = BeggarKings.class.getModifiers();
        Check.isTrue("the class is public and final", Modifier.isPublic(modifiers) && Modifier.isFinal(modifiers));
        TreeSet<String> face = new TreeSet<>();
        for (Method m : BeggarKings.class.getMethods()) {
            face.add(m.getName());
        }
        for (Method m : BeggarKings.class.getDeclaredMethods()) {
            Check.isTrue(m + " is public or private", isOpenOrClosed(m));
        }
        for (Field f : BeggarKings.class.getDeclaredFields()) {
            Check.isTrue(f + " is private", Modifier.isPrivate(f.getModifiers()));
            Check.isTrue(f + " is final if static", !Modifier.isStatic(f.getModifiers()) || Modifier.isFinal(f.getModifiers()));
        }
        for (Class<?> inner : BeggarKings.class.getDeclaredClasses()) {
            Check.isTrue(inner + " is static and not public", Modifier.isStatic(inner.getModifiers()) && !Modifier.isPublic(inner.getModifiers()));
            for (Method m : inner.getDeclaredMethods()) {
                Check.isTrue(m + " bears no name of the face", !face.contains(m.getName()));
            }
        }
    }

    private static boolean isOpenOrClosed(Member m) {
        return Modifier.isPublic(m.getModifiers()) || Modifier.isPrivate(m.getModifiers());
    }

    private static void theSourceKeepsToThePlainRules(String source) {
        String code = source.replaceAll("(?s)/\\*.*?\\*/", "").replaceAll("//[^\n]*", "").replaceAll("\"[^\"\n]*\"", "\"\"");
        for (String word : FORBIDDEN) {
            Check.isTrue("the class is without '" + word + "'", !code.contains(word));
        }
        Check.isTrue("the source is ASCII", source.chars().allMatch(c -> c < 128));
    }
}
