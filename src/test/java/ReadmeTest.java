import java.lang.reflect.Field;
import java.lang.reflect.Method;
import java.lang.reflect.Modifier;
import java.nio.file.Files;
import java.nio.file.Path;
import java.util.List;
import java.util.Set;
import java.util.TreeSet;
import java.util.regex.Matcher;
import java.util.regex.Pattern;

/**
 * What README.md says of the class: its examples are run as they stand there, so that an answer
 * told there and the class's own can't come apart.
 */
public final class ReadmeTest {
    private static final Check C = new Check();
    private static final String MADE = "FairRents bench = new FairRents();";
    private static final Pattern CALL =
            Pattern.compile("bench\\.(\\w+)\\(([-0-9, ]*)\\); +// ([A-Z]+|-?[0-9]+)(: .+)?");
    private static final Pattern ROW = Pattern.compile("\\| `(\\w+)\\(([\\w, ]*)\\)` \\|.*\\|.*\\|");
    private static final Pattern CONSTANT = Pattern.compile("`([A-Z]+)` \\((-?[0-9]+)\\)");

    private static FairRents bench;
    private static int examples;
    private static final Set<String> SHOWN = new TreeSet<>();

    public static void main(String[] args) throws Exception {
        List<String> lines = Files.readAllLines(Path.of("README.md"));
        examples(lines);
        C.is("README.md's examples", examples, 2);
        C.holds("each call stands in an example, not only " + SHOWN, SHOWN.equals(face()));
        Set<String> rows = rows(lines);
        C.holds("the table has the calls of the face, not " + rows, rows.equals(face()));
        constants(String.join("\n", lines));
        C.end();
    }

    private static void examples(List<String> lines) throws Exception {
        boolean inside = false;
        for (int i = 0; i < lines.size(); i++) {
            String line = lines.get(i);
            String where = "README.md, line " + (i + 1) + ": " + line;
            if (line.startsWith("```")) {
                inside = !inside && line.equals("```java");
                bench = null;
            } else if (inside && line.equals(MADE)) {
                bench = new FairRents();
                examples++;
            } else if (inside) {
                call(where, line);
            }
        }
    }

    /** A line that is no call with its answer would be shown and not tried, so it fails. */
    private static void call(String where, String line) throws Exception {
        Matcher told = CALL.matcher(line);
        if (bench == null || !told.matches()) {
            C.holds(where + " (no call with its answer)", false);
            return;
        }
        String[] numbers = told.group(2).isEmpty() ? new String[0] : told.group(2).split(", ");
        Method method = method(told.group(1), numbers.length);
        if (method == null) {
            C.holds(where + " (no such call)", false);
            return;
        }
        Object[] given = new Object[numbers.length];
        for (int i = 0; i < numbers.length; i++) {
            given[i] = Integer.valueOf(numbers[i]);
        }
        SHOWN.add(told.group(1) + "/" + numbers.length);
        C.is(where, ((Number) method.invoke(bench, given)).longValue(), number(told.group(3)));
    }

    private static Method method(String name, int parameters) {
        for (Method method : FairRents.class.getDeclaredMethods()) {
            if (Modifier.isPublic(method.getModifiers()) && method.getName().equals(name)
                    && method.getParameterCount() == parameters) {
                return method;
            }
        }
        return null;
    }

    private static long number(String answer) throws Exception {
        return Character.isLetter(answer.charAt(0))
                ? FairRents.class.getField(answer).getInt(null) : Long.parseLong(answer);
    }

    private static Set<String> face() {
        Set<String> calls = new TreeSet<>();
        for (Method method : FairRents.class.getDeclaredMethods()) {
            if (Modifier.isPublic(method.getModifiers())) {
                calls.add(method.getName() + "/" + method.getParameterCount());
            }
        }
        return calls;
    }

    private static Set<String> rows(List<String> lines) {
        Set<String> calls = new TreeSet<>();
        for (String line : lines) {
            Matcher row = ROW.matcher(line);
            if (row.matches()) {
                String names = row.group(2);
                calls.add(row.group(1) + "/" + (names.isEmpty() ? 0 : names.split(", ").length));
            }
        }
        return calls;
    }

    private static void constants(String text) throws Exception {
        Set<String> told = new TreeSet<>();
        Matcher constant = CONSTANT.matcher(text);
        while (constant.find()) {
            told.add(constant.group(1));
            C.is("README.md's " + constant.group(1), Long.parseLong(constant.group(2)),
                    number(constant.group(1)));
        }
        Set<String> due = new TreeSet<>();
        for (Field field : FairRents.class.getFields()) {
            due.add(field.getName());
        }
        C.holds("README.md tells the number of each constant, not only " + told, told.equals(due));
    }
}
