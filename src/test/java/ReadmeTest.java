import java.io.IOException;
import java.lang.reflect.Method;
import java.nio.file.Files;
import java.nio.file.Path;
import java.util.HashMap;
import java.util.List;
import java.util.Map;
import java.util.regex.Matcher;
import java.util.regex.Pattern;

/** What README.md says of the class: the answers of its example, and its tables of settings and properties. */
public final class ReadmeTest {
    private static final Pattern CALL =
            Pattern.compile("(?:int (\\w) = )?layout\\.(\\w+)\\(([^)]*)\\);(?: +// (?:= (-?\\d+))?.*)?");
    private static final Pattern SETTING =
            Pattern.compile("\\| `setSetting\\((\\d), \\w+\\)` \\| (.*) \\| (\\d) \\|");
    private static final Pattern PROPERTY =
            Pattern.compile("\\| (\\d) \\| (\\w) \\| .* \\| (-?\\d+) \\| (-?\\d+) \\| (-?\\d+) \\|");

    public static void main(String[] args) throws IOException, ReflectiveOperationException {
        List<String> lines = Files.readAllLines(Path.of("README.md"));
        example(lines.subList(lines.indexOf("```java") + 1, lines.indexOf("```")));
        settings(lines);
        properties(lines);
        Check.end();
    }

    /** Runs the example line by line; a line with "= number" behind it must have that answer. */
    private static void example(List<String> lines) throws ReflectiveOperationException {
        FlexLayout layout = new FlexLayout();
        Map<String, Integer> names = new HashMap<>();
        int answers = 0;
        for (String line : lines.subList(1, lines.size())) {
            Matcher call = CALL.matcher(line);
            if (!call.matches()) {
                Check.tell("not a call: " + line);
                continue;
            }
            Object[] values = values(call.group(3), names);
            int answer = (Integer) method(call.group(2)).invoke(layout, values);
            if (call.group(1) != null) {
                names.put(call.group(1), answer);
            }
            if (call.group(4) != null) {
                Check.due(line, answer, Integer.parseInt(call.group(4)));
                answers++;
            }
        }
        Check.due("the example has answers", answers > 0, true);
    }

    private static Object[] values(String list, Map<String, Integer> names) {
        if (list.isEmpty()) {
            return new Object[0];
        }
        String[] words = list.split(", ");
        Object[] values = new Object[words.length];
        for (int index = 0; index < words.length; index++) {
            Integer named = names.get(words[index]);
            values[index] = named != null ? named : Integer.valueOf(words[index]);
        }
        return values;
    }

    private static Method method(String name) throws NoSuchMethodException {
        for (Method method : FlexLayout.class.getMethods()) {
            if (method.getName().equals(name)) {
                return method;
            }
        }
        throw new NoSuchMethodException(name);
    }

    private static void settings(List<String> lines) {
        int rows = 0;
        for (String line : lines) {
            Matcher row = SETTING.matcher(line);
            if (row.matches()) {
                int setting = Integer.parseInt(row.group(1));
                Check.due(line + " is in its place", setting, rows);
                int highest = row.group(2).split(", ").length - 1;
                FlexLayout layout = new FlexLayout();
                Check.due(line + " at first", layout.setSetting(setting, highest), Integer.parseInt(row.group(3)));
                Check.thrown(line + " below", IllegalArgumentException.class, () -> layout.setSetting(setting, -1));
                Check.thrown(line + " above", IllegalArgumentException.class,
                        () -> layout.setSetting(setting, highest + 1));
                rows++;
            }
        }
        Check.due("settings told", rows, 5);
    }

    private static void properties(List<String> lines) {
        int rows = 0;
        for (String line : lines) {
            Matcher row = PROPERTY.matcher(line);
            if (row.matches()) {
                int property = Integer.parseInt(row.group(1));
                Check.due(line + " is in its place", property, rows);
                values(line, property, row.group(2), Integer.parseInt(row.group(3)), Integer.parseInt(row.group(4)),
                        Integer.parseInt(row.group(5)));
                rows++;
            }
        }
        Check.due("properties told", rows, 10);
    }

    private static void values(String line, int property, String letter, int lowest, int highest, int first) {
        FlexLayout layout = new FlexLayout();
        layout.addItem(0, 0);
        Check.due(line + " at first", layout.setProperty(0, property, lowest), first);
        Check.due(line + " lowest", layout.setProperty(0, property, highest), lowest);
        Check.thrown(line + " below", IllegalArgumentException.class,
                () -> layout.setProperty(0, property, lowest - 1));
        Check.thrown(line + " above", IllegalArgumentException.class,
                () -> layout.setProperty(0, property, highest + 1));
        Check.due(line + " read", Make.read(layout, letter + highest), 1);
        Check.due(line + " by its letter", layout.property(1, property), highest);
    }
}
