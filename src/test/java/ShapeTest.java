import java.lang.management.ManagementFactory;
import java.lang.reflect.Constructor;
import java.lang.reflect.Field;
import java.lang.reflect.Method;
import java.lang.reflect.Modifier;
import java.nio.file.Files;
import java.nio.file.Path;
import java.util.Arrays;
import java.util.Set;
import java.util.TreeSet;
import java.util.regex.Matcher;
import java.util.regex.Pattern;

/** The public face, the rules of LANGUAGE.md that can be read off the file, and the memory that a run takes. */
public final class ShapeTest {
    private static final Check check = new Check();
    private static final String FACE = "int module(int); int table(int); int routine(int); int line(int,int,int,int); "
        + "int clear(int); int run(int,int); int cell(int,int,int); int counted(int,int,int); int tied(int,int,int); "
        + "int room(int,int); int weight(int,int); int tell(int,int,int); long price(); long cut(int,int); "
        + "int put(int); int ring(int); int act(int,int); int deliver(int); int settle(); int letter(int,int); "
        + "int law(int); int term(int,int,int,int); int holds(int,int); int broken(int); int worst(int,int); "
        + "int orders(); int beside(int,int); int unlike(int); int differ(); int sync(); int image(int); "
        + "int restore(int); int count(int)";

    public static void main(String[] args) throws Exception {
        methods();
        fields();
        nested();
        source(Files.readString(Path.of("src/main/java/PartedHouse.java")));
        memory();
        anyArguments();
        check.end();
    }

    private static void methods() {
        Set<String> found = new TreeSet<>(), names = new TreeSet<>();
        for (Method m : PartedHouse.class.getDeclaredMethods()) {
            if (Modifier.isPublic(m.getModifiers())) {
                StringBuilder types = new StringBuilder();
                for (Class<?> type : m.getParameterTypes()) {
                    types.append(types.length() > 0 ? "," : "").append(type.getName());
                }
                found.add(m.getReturnType().getName() + " " + m.getName() + "(" + types + ")");
                names.add(m.getName());
                check.due(m.getName() + " is static", Modifier.isStatic(m.getModifiers()) ? 1 : 0, 0);
            }
        }
        Set<String> face = new TreeSet<>(Arrays.asList(FACE.split("; ")));
        check.due("the public methods are the face's", found.equals(face) ? 1 : 0, 1);
        hiddenMethods(PartedHouse.class, names);
        for (Class<?> inside : PartedHouse.class.getDeclaredClasses()) {
            hiddenMethods(inside, names);
        }
        Constructor<?>[] made = PartedHouse.class.getDeclaredConstructors();
        check.due("constructors", made.length, 1);
        check.due("its modifiers", made[0].getModifiers(), Modifier.PUBLIC);
        check.due("its parameters", made[0].getParameterCount(), 0);
        check.due("the class", PartedHouse.class.getModifiers(), Modifier.PUBLIC | Modifier.FINAL);
    }

    private static void hiddenMethods(Class<?> where, Set<String> names) {
        for (Method m : where.getDeclaredMethods()) {
            boolean face = Modifier.isPublic(m.getModifiers());
            String called = where.getSimpleName() + "." + m.getName();
            check.due(called + " bears a public name", !face && names.contains(m.getName()) ? 1 : 0, 0);
            check.due(called + " has more than seven parameters", m.getParameterCount() > 7 ? 1 : 0, 0);
            if (where == PartedHouse.class && !face && !m.isSynthetic()) {
                check.due(called + " is private", Modifier.isPrivate(m.getModifiers()) ? 1 : 0, 1);
            }
        }
    }

    private static void fields() {
        Set<String> constants = new TreeSet<>();
        for (Field f : PartedHouse.class.getDeclaredFields()) {
            if (Modifier.isPublic(f.getModifiers())) {
                constants.add(f.getName());
            } else {
                check.due(f.getName() + " is private", Modifier.isPrivate(f.getModifiers()) ? 1 : 0, 1);
            }
            if (Modifier.isStatic(f.getModifiers())) {
                check.due(f.getName() + " is final", Modifier.isFinal(f.getModifiers()) ? 1 : 0, 1);
            }
        }
        check.due("constants", constants.equals(Set.of("BAD", "NOT", "FULL", "BIG", "FAILED")) ? 1 : 0, 1);
        check.due("BAD", PartedHouse.BAD, -1);
        check.due("NOT", PartedHouse.NOT, -2);
        check.due("FULL", PartedHouse.FULL, -3);
        check.due("BIG", PartedHouse.BIG, -4);
        check.due("FAILED", PartedHouse.FAILED, -2000000000);
    }

    private static void nested() {
        Class<?>[] inside = PartedHouse.class.getDeclaredClasses();
        check.due("more than twelve classes", inside.length + 1 > 12 ? 1 : 0, 0);
        for (Class<?> c : inside) {
            int own = 0;
            for (Field f : c.getDeclaredFields()) {
                own += Modifier.isStatic(f.getModifiers()) ? 0 : 1;
            }
            check.due(c.getSimpleName() + " is static", Modifier.isStatic(c.getModifiers()) ? 1 : 0, 1);
            check.due(c.getSimpleName() + " has more than twenty fields", own > 20 ? 1 : 0, 0);
        }
    }

    private static void source(String text) {
        String bare = text.replaceAll("(?s)/\\*.*?\\*/", "").replaceAll("//[^\n]*", "");
        String[] words = {"throw", "throws", "try", "catch", "finally", "synchronized", "assert", "package", "native",
            "volatile", "System\\.(?!arraycopy)", "Random", "Thread", "hashCode", "toString", "equals", "\\w+Exact"};
        for (String word : words) {
            Matcher m = Pattern.compile("\\b" + word + (word.endsWith(")") ? "" : "\\b")).matcher(bare);
            check.due("the file has " + word, m.find() ? 1 : 0, 0);
        }
        check.due("the file has an arrow", bare.contains("->") ? 1 : 0, 0);
        check.due("the file has a method reference", bare.contains("::") ? 1 : 0, 0);
        Matcher imports = Pattern.compile("import ([^;]+);").matcher(bare);
        while (imports.find()) {
            check.due("import " + imports.group(1), imports.group(1).matches("java\\.util\\.(Arrays|ArrayList|List)") ? 1 : 0, 1);
        }
        check.due("signs past 127", text.chars().anyMatch(sign -> sign > 127) ? 1 : 0, 0);
        longMethods(bare);
    }

    /** A method begins at a line with a brace at its end and parameters, and ends at the brace of its own depth. */
    private static void longMethods(String bare) {
        String[] rows = bare.split("\n");
        for (int i = 0; i < rows.length; i++) {
            Matcher head = Pattern.compile("^( +)(?! )(?:[\\w\\[\\]]+ )*(\\w+)\\([^)]*\\) \\{$").matcher(rows[i]);
            if (!head.find() || rows[i].contains(" else ") || rows[i].trim().startsWith("for ")) {
                continue;
            }
            int end = i;
            while (end < rows.length && !rows[end].equals(head.group(1) + "}")) {
                end++;
            }
            check.due(head.group(2) + " is longer than sixty lines", end - i > 60 ? 1 : 0, 0);
        }
    }

    private static long bytes() {
        com.sun.management.ThreadMXBean bean = (com.sun.management.ThreadMXBean) ManagementFactory.getThreadMXBean();
        return bean.getThreadAllocatedBytes(Thread.currentThread().getId());
    }

    /** The dearest run: letters up to 2000, all images kept at their greatest, cuts and orders all along. */
    private static void memory() {
        long before = bytes();
        PartedHouse x = Check.house(9);
        for (int t = 1; t <= 5; t++) {
            x.room(t, 1);
            Check.lines(x, 0, Check.CALL, t, 0);
            for (int c = 0; c < 8; c++) {
                Check.lines(x, t, Check.WRITE, t, c);
            }
        }
        for (int i = 0; i < 50; i++) {
            x.act(0, i);
            x.image(i % 4);
            x.settle();
            x.cut(6, 9);
            x.beside(1, i);
            x.restore(i % 4);
            x.settle();
        }
        long took = bytes() - before;
        check.due("letters", x.count(6), 2000);
        System.out.println(took + " bytes for the dearest run");
        check.due("more than a million bytes", took > 1000000 ? 1 : 0, 0);
    }

    /** No call may throw, whatever it is given: each method with odd numbers, on an empty object and a used one. */
    private static void anyArguments() throws Exception {
        int[] odd = {Integer.MIN_VALUE, -1000, -1, 0, 1, 5, 6, 9, 16, 40, 1000, Integer.MAX_VALUE};
        int thrown = 0;
        for (Method m : PartedHouse.class.getDeclaredMethods()) {
            if (!Modifier.isPublic(m.getModifiers())) {
                continue;
            }
            for (int used = 0; used < 2; used++) {
                PartedHouse x = used == 0 ? new PartedHouse() : Check.house(9);
                int n = m.getParameterCount();
                for (int way = 0; way < Math.pow(odd.length, n); way++) {
                    Object[] given = new Object[n];
                    int rest = way;
                    for (int i = 0; i < n; i++) {
                        given[i] = odd[rest % odd.length];
                        rest /= odd.length;
                    }
                    try {
                        m.invoke(x, given);
                    } catch (java.lang.reflect.InvocationTargetException e) {
                        thrown++;
                        System.out.println(m.getName() + Arrays.toString(given) + " threw " + e.getCause());
                    }
                }
            }
        }
        check.due("calls that threw", thrown, 0);
    }
}
