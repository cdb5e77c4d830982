import java.io.IOException;
import java.lang.reflect.Constructor;
import java.lang.reflect.Field;
import java.lang.reflect.Member;
import java.lang.reflect.Method;
import java.lang.reflect.Modifier;
import java.nio.file.Files;
import java.nio.file.Path;
import java.util.Arrays;
import java.util.List;
import java.util.Set;
import java.util.TreeSet;
import java.util.regex.Matcher;
import java.util.regex.Pattern;

/** The face of the document, rules of LANGUAGE.md that a text search can see, and the room that calls take. */
public final class FaceTest {
    private static final Path SOURCE = Path.of("src/main/java/FlexLayout.java");
    private static final Path DOCUMENT = Path.of("../shared/DOC.md");
    private static final List<String> NOT_ALLOWED = List.of("\\btry\\b", "\\bcatch\\b", "\\bfinally\\b",
            "\\bsynchronized\\b", "\\bassert\\b", "->", "::", "Exact\\(", "\\bprotected\\b", "\\bpackage\\b",
            "\\bSystem\\.(?!arraycopy\\b)",
            "\\bstatic (?!final |class )(?:int|long|char|boolean|String)(?:\\[\\])* \\w+ ?[=;]",
            "\\bimport (?!java\\.util\\.NoSuchElementException;)", "\\bRandom\\b", "\\bThread\\b", "[^\\x00-\\x7f]");

    public static void main(String[] args) throws IOException {
        face();
        language();
        room();
        Check.end();
    }

    private static void face() throws IOException {
        String document = Files.readString(DOCUMENT);
        String block = document.substring(document.indexOf("```java"), document.lastIndexOf("```"));
        Set<String> promised = new TreeSet<>();
        Matcher lines = Pattern.compile("public (?!final class)([^;]*);").matcher(block);
        while (lines.find()) {
            promised.add(lines.group(1));
        }
        Set<String> found = new TreeSet<>();
        for (Method method : FlexLayout.class.getDeclaredMethods()) {
            if (isSeen(method)) {
                found.add(method.getReturnType().getSimpleName() + " " + signature(method.getName(),
                        method.getParameterTypes(), method.getExceptionTypes()));
            } else {
                Check.due("private method " + method.getName() + " bears a public name",
                        promised.stream().anyMatch(face -> face.contains(" " + method.getName() + "(")), false);
            }
        }
        for (Constructor<?> constructor : FlexLayout.class.getDeclaredConstructors()) {
            found.add(signature("FlexLayout", constructor.getParameterTypes(), constructor.getExceptionTypes()));
        }
        for (Field field : FlexLayout.class.getDeclaredFields()) {
            if (isSeen(field)) {
                found.add(Modifier.toString(field.getModifiers()).replace("public ", "") + " int " + field.getName()
                        + " = -1");
            }
        }
        // Reflection knows no names of parameters.
        Set<String> wanted = new TreeSet<>();
        promised.forEach(face -> wanted.add(face.replaceAll("(int|char) \\w+(?=[,)])", "$1")));
        Check.due("promises in the face", wanted.size(), 30);
        Check.due("face: " + found + " for " + wanted, found.equals(wanted), true);
        Check.due("public and final", FlexLayout.class.getModifiers(), Modifier.PUBLIC | Modifier.FINAL);
    }

    private static boolean isSeen(Member member) {
        return !Modifier.isPrivate(member.getModifiers());
    }

    private static String signature(String name, Class<?>[] parameters, Class<?>[] exceptions) {
        return name + "(" + names(parameters) + ")" + (exceptions.length == 0 ? "" : " throws " + names(exceptions));
    }

    private static String names(Class<?>[] classes) {
        return String.join(", ", Arrays.stream(classes).map(Class::getSimpleName).toArray(String[]::new));
    }

    private static void language() throws IOException {
        String source = Files.readString(SOURCE);
        String code = source.replaceAll("(?s)/\\*.*?\\*/", "").replaceAll("//[^\n]*", "")
                .replaceAll("\"[^\"\n]*\"", "\"\"");
        for (String rule : NOT_ALLOWED) {
            Matcher matcher = Pattern.compile(rule).matcher(code);
            Check.due("found " + rule, matcher.find(), false);
        }
    }

    private static void room() {
        useAll();
        long before = taken();
        int calls = useAll();
        long bytes = taken() - before;
        // The object itself with its rows is all that may be made.
        Check.due(calls + " calls made " + bytes + " bytes", bytes < 16 * 1024, true);
    }

    private static long taken() {
        return ((com.sun.management.ThreadMXBean) java.lang.management.ManagementFactory.getThreadMXBean())
                .getThreadAllocatedBytes(Thread.currentThread().getId());
    }

    private static int useAll() {
        FlexLayout layout = new FlexLayout();
        layout.setSetting(Make.WRAP, 1);
        int calls = 2;
        for (int item = 0; item < 20; item++) {
            layout.addItem(7 * item, 3 * item);
            layout.setProperty(item, Make.GROW, item);
            layout.feed('b');
            calls += 3;
        }
        while (calls < 512) {
            int item = calls % 20;
            layout.save();
            layout.removeItem(item);
            layout.readItem();
            layout.restore();
            layout.box(item, calls % 4);
            layout.rounds(0);
            layout.freeSpace(0);
            layout.lineCross(0);
            layout.lineAscent(0);
            layout.crossExtent();
            layout.lineOf(item);
            layout.itemAt(item);
            layout.overflows(item);
            layout.itemUnder(0, 0);
            layout.overlaps();
            layout.narrowest(3);
            layout.share(1000, 0, item);
            calls += 17;
        }
        return calls;
    }
}
