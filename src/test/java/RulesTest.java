import java.io.IOException;
import java.lang.management.ManagementFactory;
import java.lang.reflect.Field;
import java.lang.reflect.Method;
import java.lang.reflect.Modifier;
import java.nio.file.Files;
import java.nio.file.Path;
import java.util.ArrayList;
import java.util.List;
import java.util.Set;
import java.util.TreeSet;
import java.util.regex.Matcher;
import java.util.regex.Pattern;

/** Holds the class against the face of DOC.md and against those rules of LANGUAGE.md that a machine can look at. */
public final class RulesTest {
    private static final Path SOURCE = Path.of("src/main/java/FiveInks.java");
    private static final Set<String> FACE = Set.of("begin()", "rank(int,int)", "mark()", "strike(int,int,int)",
        "accept(int)", "refuse(int)", "wash(int)", "judge()", "ship()", "letter(int,int)", "seen(int,int)", "of(int,int)",
        "clash(int,int)", "editor(int,int)", "count(int)", "version(int,int)", "apart(int,int)", "ifAccepted(int,int)",
        "ifJudged(int)", "put(long)", "wipe()", "fault()", "undo()", "save(int)", "restore(int)");
    private static final Set<String> CONSTANTS = Set.of("NO_SUCH", "BAD_VALUE", "BAD_TEXT", "TOO_MANY", "NOT_POSSIBLE",
        "NONE", "STRIKE", "PUT_IN", "REPLACE");

    private static final List<String> wrongs = new ArrayList<>();

    private static void must(boolean holds, String what) {
        if (!holds) {
            wrongs.add(what);
        }
    }

    private static String signature(Method method) {
        List<String> types = new ArrayList<>();
        for (Class<?> type : method.getParameterTypes()) {
            types.add(type.getName());
        }
        return method.getName() + "(" + String.join(",", types) + ")";
    }

    private static void face() {
        must(Modifier.isFinal(FiveInks.class.getModifiers()), "the class is final");
        must(FiveInks.class.getDeclaredConstructors().length == 1, "one constructor");
        Set<String> found = new TreeSet<>();
        for (Method method : FiveInks.class.getDeclaredMethods()) {
            if (!Modifier.isPrivate(method.getModifiers())) {
                found.add(signature(method));
                must(Modifier.isPublic(method.getModifiers()), signature(method) + " is public");
                must(method.getReturnType() == int.class, signature(method) + " returns an int");
            }
        }
        must(found.equals(new TreeSet<>(FACE)), "the methods of the face, not " + found);
        Set<String> constants = new TreeSet<>();
        for (Field field : FiveInks.class.getDeclaredFields()) {
            must(!Modifier.isStatic(field.getModifiers()) || Modifier.isFinal(field.getModifiers()),
                field.getName() + " is static and not final");
            if (!Modifier.isPrivate(field.getModifiers())) {
                constants.add(field.getName());
            }
        }
        must(constants.equals(new TreeSet<>(CONSTANTS)), "the constants of the face, not " + constants);
    }

    private static void innerClasses() {
        Set<String> names = new TreeSet<>();
        FACE.forEach(signature -> names.add(signature.substring(0, signature.indexOf('('))));
        must(FiveInks.class.getDeclaredClasses().length < 12, "some twelve classes");
        for (Class<?> inner : FiveInks.class.getDeclaredClasses()) {
            must(Modifier.isStatic(inner.getModifiers()), inner + " is static");
            must(!Modifier.isPublic(inner.getModifiers()), inner + " is not public");
            must(inner.getDeclaredFields().length <= 20, inner + " has some twenty fields");
            for (Method method : inner.getDeclaredMethods()) {
                must(!names.contains(method.getName()), inner + "." + method.getName() + " bears a name of the face");
                must(method.getParameterCount() <= 7, inner + "." + method.getName() + " has seven parameters at most");
            }
        }
    }

    private static void words(String code) {
        String[] banned = {"\\bthrow\\b", "\\btry\\b", "\\bcatch\\b", "\\bsynchronized\\b", "\\bassert\\b", "\\bimport\\b",
            "\\bpackage\\b", "->", "::", "\\binstanceof\\b", "\\bprotected\\b", "\\bString\\b", "\"", "\\[\\]\\[\\]\\["};
        for (String word : banned) {
            must(!Pattern.compile(word).matcher(code).find(), "no " + word);
        }
        Matcher library = Pattern.compile("\\b(System|Math|Arrays|Integer|Long)\\.(\\w+)").matcher(code);
        while (library.find()) {
            must(Set.of("System.arraycopy", "Math.min", "Math.max", "Math.floorMod").contains(library.group()),
                library.group() + " is looked at by the rules");
        }
    }

    private static void lengthOfMethods(List<String> lines) {
        int start = 0;
        for (int i = 0; i < lines.size(); i++) {
            String line = lines.get(i);
            must(line.length() <= 120, "line " + (i + 1) + " is short");
            if (line.matches("( {4}| {8})\\S.*\\) \\{")) {
                start = i;
            }
            must(!line.matches("( {4}| {8})\\}") || i - start <= 60 || line.equals("    }"),
                "the method that ends at line " + (i + 1) + " is short");
        }
    }

    /** All rows are made in the constructor, since the calls of a run live in one room. */
    private static void room() {
        com.sun.management.ThreadMXBean bean = (com.sun.management.ThreadMXBean) ManagementFactory.getThreadMXBean();
        long thread = Thread.currentThread().getId();
        useOften(new FiveInks());
        bean.getThreadAllocatedBytes(thread);
        long before = bean.getThreadAllocatedBytes(thread);
        FiveInks x = new FiveInks();
        long made = bean.getThreadAllocatedBytes(thread);
        useOften(x);
        long used = bean.getThreadAllocatedBytes(thread);
        must(made - before < 60_000, "a new object is small, not " + (made - before) + " bytes");
        must(used - made < 1_000, "calls make no objects, not " + (used - made) + " bytes");
    }

    private static void useOften(FiveInks x) {
        for (int i = 0; i < 20; i++) {
            x.put(0x6162636465666768L);
            x.begin();
            x.put(0x302b30612c312d30L);
            x.put(0x3a33L);
            x.mark();
            x.strike(2, 1, 4);
            x.rank(2, i % 10);
            x.ifJudged(5);
            x.ifAccepted(0, 1);
            x.accept(0);
            x.judge();
            x.seen(1, 1);
            x.letter(1, 1);
            x.save(i % 2);
            x.ship();
            x.apart(0, 0);
            x.version(0, 0);
            x.count(5);
            x.editor(1, 6);
            x.undo();
            x.restore(i % 2);
            x.clash(0, 1);
            x.wash(0);
            x.fault();
            x.wipe();
        }
    }

    public static void main(String[] args) throws IOException {
        face();
        innerClasses();
        String source = Files.readString(SOURCE);
        words(source.replaceAll("(?s)/\\*.*?\\*/", "").replaceAll("//[^\n]*", ""));
        lengthOfMethods(source.lines().toList());
        room();
        for (String wrong : wrongs) {
            System.out.println("against the rules: " + wrong);
        }
        System.out.println("rules: " + wrongs.size() + " wrong");
        if (!wrongs.isEmpty()) {
            System.exit(1);
        }
    }
}
