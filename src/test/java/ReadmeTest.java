import java.lang.reflect.Method;
import java.lang.reflect.Modifier;
import java.nio.file.Files;
import java.nio.file.Path;
import java.util.Arrays;
import java.util.Set;
import java.util.TreeSet;
import java.util.regex.Matcher;
import java.util.regex.Pattern;

/** README.md's example answers what it says, and its table tells each call of the face. */
public final class ReadmeTest {
    private static final Check check = new Check();

    public static void main(String[] args) throws Exception {
        String readme = Files.readString(Path.of("README.md"));
        example(readme);
        table(readme);
        check.end();
    }

    private static void example(String readme) throws Exception {
        int begin = readme.indexOf("```java"), end = readme.indexOf("```", begin + 3);
        check.due("README.md has an example", begin >= 0 && end > begin ? 1 : 0, 1);
        if (begin < 0 || end < begin) {
            return;
        }
        String[] rows = readme.substring(begin, end).split("\n");
        check.due("it begins with a new object", rows[1].equals("PartedHouse x = new PartedHouse();") ? 1 : 0, 1);
        PartedHouse x = new PartedHouse();
        for (int i = 2; i < rows.length; i++) {
            Matcher row = Pattern.compile("x\\.(\\w+)\\(([-\\d, ]*)\\); +// (-?\\d+): .+").matcher(rows[i]);
            boolean isCall = row.matches();
            check.due("a call with its answer: " + rows[i], isCall ? 1 : 0, 1);
            if (isCall) {
                check.due(rows[i], answer(x, row.group(1), row.group(2)), Long.parseLong(row.group(3)));
            }
        }
    }

    private static long answer(PartedHouse x, String name, String given) throws Exception {
        Object[] numbers = given.isEmpty() ? new Object[0]
            : Arrays.stream(given.split(", ")).map(Integer::valueOf).toArray();
        Class<?>[] types = new Class<?>[numbers.length];
        Arrays.fill(types, int.class);
        return ((Number) PartedHouse.class.getMethod(name, types).invoke(x, numbers)).longValue();
    }

    private static void table(String readme) {
        Set<String> told = new TreeSet<>(), face = new TreeSet<>();
        Matcher row = Pattern.compile("(?m)^\\| `(\\w+)\\(([^)]*)\\)` \\|").matcher(readme);
        while (row.find()) {
            int numbers = row.group(2).isEmpty() ? 0 : row.group(2).split(", ").length;
            check.due(row.group(1) + " is told twice", told.add(row.group(1) + " of " + numbers) ? 0 : 1, 0);
        }
        for (Method m : PartedHouse.class.getDeclaredMethods()) {
            if (Modifier.isPublic(m.getModifiers())) {
                face.add(m.getName() + " of " + m.getParameterCount());
            }
        }
        for (String call : face) {
            check.due("the table tells " + call, told.contains(call) ? 1 : 0, 1);
        }
        check.due("calls that the table tells", told.size(), face.size());
    }
}
