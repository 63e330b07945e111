import java.io.IOException;
import java.lang.reflect.Field;
import java.lang.reflect.Method;
import java.lang.reflect.Modifier;
import java.nio.file.Files;
import java.nio.file.Path;
import java.util.ArrayList;
import java.util.List;
import java.util.Set;
import java.util.TreeSet;
import java.util.regex.Matcher;
import java.util.regex.Pattern;

/** Holds what README.md says of the calls, their answers and the constants against the class. */
public final class ReadmeTest {
    private static final Pattern EXAMPLE = Pattern.compile("(?m)^inks\\.(\\w+)\\((.*)\\);\\s+// (-?\\d+): ");
    private static final Pattern CALL = Pattern.compile("(?m)^\\| `(\\w+\\(.*?\\))` \\|");
    private static final Pattern CONSTANT = Pattern.compile("(?m)^\\| (-?\\d+) \\| `(\\w+)` \\|");

    private static final List<String> wrongs = new ArrayList<>();
    private static int checks = 0;

    private static void must(boolean holds, String what) {
        checks++;
        if (!holds) {
            wrongs.add(what);
        }
    }

    /** The example's calls, one after the other on one object, as the page has them. */
    private static void example(String page) throws ReflectiveOperationException {
        FiveInks inks = new FiveInks();
        Matcher line = EXAMPLE.matcher(page);
        int lines = 0;
        while (line.find()) {
            lines++;
            int got = answer(inks, line.group(1), line.group(2));
            must(got == Integer.parseInt(line.group(3)), line.group() + "but the answer was " + got);
        }
        must(lines == page.lines().filter(text -> text.startsWith("inks.")).count(), "each line says its answer");
        must(lines > 0, "there is an example");
    }

    private static int answer(FiveInks inks, String name, String list) throws ReflectiveOperationException {
        String[] values = list.isEmpty() ? new String[0] : list.split(", ");
        Method method = method(name);
        Object[] given = new Object[values.length];
        for (int i = 0; i < values.length; i++) {
            boolean isLong = method.getParameterTypes()[i] == long.class;
            given[i] = isLong ? (Object) Long.decode(values[i].replace("L", "")) : (Object) Integer.decode(values[i]);
        }
        return (Integer) method.invoke(inks, given);
    }

    private static Method method(String name) {
        for (Method method : FiveInks.class.getDeclaredMethods()) {
            if (Modifier.isPublic(method.getModifiers()) && method.getName().equals(name)) {
                return method;
            }
        }
        throw new IllegalStateException("no call " + name);
    }

    /** The page names each call of the document's face, with its parameters, and no other one. */
    private static void calls(String page, String document) {
        Set<String> face = new TreeSet<>();
        Matcher promised = Pattern.compile("(?m)^    public int (\\w+\\(.*\\));$").matcher(document);
        while (promised.find()) {
            face.add(promised.group(1).replaceAll("\\b(int|long) ", ""));
        }
        Set<String> named = new TreeSet<>();
        Matcher row = CALL.matcher(page);
        while (row.find()) {
            named.add(row.group(1));
        }
        must(named.equals(face), "the calls are " + face + ", the page names " + named);
    }

    private static void constants(String page) throws ReflectiveOperationException {
        Matcher row = CONSTANT.matcher(page);
        int rows = 0;
        while (row.find()) {
            rows++;
            Field constant = FiveInks.class.getDeclaredField(row.group(2));
            must(constant.getInt(null) == Integer.parseInt(row.group(1)), row.group(2) + " has another value");
        }
        must(rows == 6, "the page names the six negative answers");
    }

    /** The page names each of the project's tests. */
    private static void tests(String page) throws IOException {
        try (var files = Files.list(Path.of("src/test/java"))) {
            files.forEach(file -> must(page.contains("`src/test/java/" + file.getFileName() + "`"),
                "the page does not name " + file));
        }
    }

    public static void main(String[] args) throws IOException, ReflectiveOperationException {
        String page = Files.readString(Path.of("README.md"));
        example(page);
        calls(page, Files.readString(Path.of("../shared/DOC.md")));
        constants(page);
        tests(page);
        for (String wrong : wrongs) {
            System.out.println("README.md: " + wrong);
        }
        System.out.println("readme: " + checks + " checks, " + wrongs.size() + " wrong");
        if (!wrongs.isEmpty()) {
            System.exit(1);
        }
    }
}
