import java.lang.reflect.Method;
import java.lang.reflect.Modifier;
import java.nio.file.Files;
import java.nio.file.Path;
import java.util.List;
import java.util.Set;
import java.util.TreeSet;
import java.util.regex.Matcher;
import java.util.regex.Pattern;

/** README.md: its example answers as it says; its tables have every call, every constant and every test. */
public final class ReadmeTest {
    private static final Due DUE = new Due("ReadmeTest");
    private static final Pattern CALL = Pattern.compile("x\\.(\\w+)\\(([^)]*)\\); +// (-?\\d+): .*");

    private static Method methodOf(String name) {
        for (Method m : MendedTube.class.getDeclaredMethods()) if (m.getName().equals(name)) return m;
        throw new IllegalStateException("no call " + name);
    }

    private static Object[] numbersOf(Method m, String told) {
        Object[] numbers = new Object[m.getParameterCount()];
        String[] each = told.isEmpty() ? new String[0] : told.split(", ");
        for (int i = 0; i < numbers.length; i++) {
            long v = Long.decode(each[i].replace("L", ""));
            if (m.getParameterTypes()[i] == int.class) numbers[i] = (int) v;
            else numbers[i] = v;
        }
        return numbers;
    }

    private static void example(List<String> page) throws ReflectiveOperationException {
        MendedTube x = new MendedTube();
        int calls = 0;
        for (String line : page) {
            if (!line.startsWith("x.")) continue;
            Matcher told = CALL.matcher(line);
            DUE.is("this line is a call with its answer: " + line, 1, told.matches() ? 1 : 0);
            if (!told.matches()) continue;
            Method m = methodOf(told.group(1));
            DUE.is(line, Integer.parseInt(told.group(3)), (int) m.invoke(x, numbersOf(m, told.group(2))));
            calls++;
        }
        DUE.is("the example has calls", 1, calls > 0 ? 1 : 0);
    }

    /** What stands in one column of all tables between marks. */
    private static Set<String> marked(List<String> page, int column) {
        Set<String> marked = new TreeSet<>();
        for (String line : page) {
            if (!line.startsWith("| ")) continue;
            Matcher m = Pattern.compile("`(\\w+)`").matcher(line.split("\\|")[column]);
            while (m.find()) marked.add(m.group(1));
        }
        return marked;
    }

    private static void tables(List<String> page) throws Exception {
        Set<String> due = new TreeSet<>();
        for (Method m : MendedTube.class.getDeclaredMethods()) if (Modifier.isPublic(m.getModifiers())) due.add(m.getName());
        try (var files = Files.list(Path.of("src/test/java"))) {
            files.map(f -> f.getFileName().toString()).filter(f -> f.endsWith("Test.java"))
                .forEach(f -> due.add(f.replace(".java", "")));
        }
        Set<String> told = marked(page, 1);
        DUE.is("the calls and the tests told are " + told + ", there are " + due, 1, told.equals(due) ? 1 : 0);
        constant(page, "BAD", MendedTube.BAD);
        constant(page, "FULL", MendedTube.FULL);
        constant(page, "NONE", MendedTube.NONE);
        constant(page, "STATE", MendedTube.STATE);
        for (int refused = -15; refused <= -11; refused++) {
            String begin = "| " + refused + " | |";
            DUE.is("it tells what " + refused + " means", 1, page.stream().filter(s -> s.startsWith(begin)).count());
        }
    }

    private static void constant(List<String> page, String name, int v) {
        String begin = "| " + v + " | `MendedTube." + name + "` |";
        DUE.is("it tells what " + name + " is", 1, page.stream().filter(s -> s.startsWith(begin)).count());
    }

    public static void main(String[] args) throws Exception {
        List<String> page = Files.readAllLines(Path.of("README.md"));
        example(page);
        tables(page);
        DUE.end();
    }
}
