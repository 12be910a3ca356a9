import com.sun.management.ThreadMXBean;
import java.lang.management.ManagementFactory;
import java.lang.reflect.Constructor;
import java.lang.reflect.Field;
import java.lang.reflect.Method;
import java.lang.reflect.Modifier;
import java.nio.file.Files;
import java.nio.file.Path;
import java.util.ArrayList;
import java.util.List;
import java.util.TreeSet;

/** What ../shared/LANGUAGE.md asks of the program, as far as a test can see it; run from the project's root. */
public final class LanguageTest {
    private static final String[] FACE = {
        "place 2", "street 3", "drop 1", "undo 0", "told 2", "streetTold 2", "count 1", "apart 2", "way 3", "span 0",
        "least 0", "many 0", "best 2", "must 1", "most 1", "lay 1", "clear 0", "why 0", "tag 0", "trim 0", "better 0",
        "walls 0", "wall 2", "bound 0", "act 3", "trace 1", "map 3", "cell 3", "fromMap 3", "forge 3", "status 0"};
    private static final String[] BANNED = {
        "\\b(throw|throws|try|catch|synchronized|assert|native|volatile|transient|finally)\\b", "->", "::", "@",
        "\\w+Exact\\b", "\\b(System\\.(?!arraycopy))", "\\b(equals|hashCode|toString)\\s*\\(", "\\bwhile\\s*\\(true",
        "\\bfor\\s*\\(\\s*;", "\\bprotected\\b", "\\bstatic\\s*\\{"};
    private static int wrong = 0;

    private static void check(boolean holds, String what) {
        if (!holds) {
            wrong++;
            System.out.println("language: " + what);
        }
    }

    private static void face() {
        TreeSet<String> due = new TreeSet<>(List.of(FACE));
        TreeSet<String> names = new TreeSet<>();
        for (String row : FACE) names.add(row.substring(0, row.indexOf(' ')));
        TreeSet<String> found = new TreeSet<>();
        for (Method m : DripLines.class.getDeclaredMethods()) {
            if (Modifier.isPublic(m.getModifiers())) {
                found.add(m.getName() + " " + m.getParameterCount());
                check(m.getReturnType() == int.class, m.getName() + " answers no int");
                for (Class<?> type : m.getParameterTypes()) check(type == int.class, m.getName() + " takes another type");
            } else {
                check(Modifier.isPrivate(m.getModifiers()), m.getName() + " is neither public nor private");
                check(!names.contains(m.getName()), m.getName() + " is private with a public name");
            }
        }
        check(found.equals(due), "the public methods are " + found);
        for (Field f : DripLines.class.getDeclaredFields()) {
            boolean constant = f.getName().equals("NONE") || f.getName().equals("NO");
            check(constant == Modifier.isPublic(f.getModifiers()), f.getName() + " is public or should be");
            check(constant || Modifier.isPrivate(f.getModifiers()), f.getName() + " is not private");
        }
        Constructor<?>[] made = DripLines.class.getDeclaredConstructors();
        check(made.length == 1 && made[0].getParameterCount() == 0 && Modifier.isPublic(made[0].getModifiers()), "the constructor");
        check(Modifier.isFinal(DripLines.class.getModifiers()), "the class is not final");
    }

    private static void classes() {
        List<Class<?>> all = new ArrayList<>(List.of(DripLines.class.getDeclaredClasses()));
        check(all.size() < 12, "there are " + all.size() + " classes inside");
        for (Class<?> inside : all) {
            check(Modifier.isStatic(inside.getModifiers()), inside.getName() + " is not static");
            check(!Modifier.isPublic(inside.getModifiers()), inside.getName() + " is public");
        }
        all.add(DripLines.class);
        for (Class<?> one : all) {
            int fields = 0;
            for (Field f : one.getDeclaredFields()) {
                if (!Modifier.isStatic(f.getModifiers())) fields++;
                else check(Modifier.isFinal(f.getModifiers()), f.getName() + " is static and not final");
            }
            check(fields <= 20, one.getName() + " has " + fields + " fields");
            for (Method m : one.getDeclaredMethods()) check(m.getParameterCount() <= 7, m.getName() + " takes too many");
        }
    }

    private static void words() throws Exception {
        String source = Files.readString(Path.of("src/main/java/DripLines.java"));
        String code = source.replaceAll("(?s)/\\*.*?\\*/", "").replaceAll("//.*", "");
        for (String banned : BANNED) {
            var found = java.util.regex.Pattern.compile(banned).matcher(code);
            check(!found.find(), "the source has " + banned);
        }
        var imports = java.util.regex.Pattern.compile("import ([^;]*);").matcher(code);
        while (imports.find()) check(imports.group(1).equals("java.util.Arrays"), "import " + imports.group(1));
    }

    /** A run of 512 calls that builds the dearest nets again and again. */
    private static void dearRun() {
        DripLines x = new DripLines();
        x.place(1, 0);
        for (int p = 1; p < 10; p++) x.place(2, 5);
        for (int s = 0; s < 16; s++) x.street(s % 9 + 1, s < 9 ? 0 : s % 9 + 2, 5);
        for (int call = 0; call < 80; call++) {
            x.drop(call % 16);
            x.many();
            x.walls();
            x.span();
            x.undo();
            x.best(3, 3);
        }
    }

    /** The room holds 7.3 million elements, of 4 bytes or more: a dear run stays far below that. */
    private static void room() {
        ThreadMXBean threads = (ThreadMXBean) ManagementFactory.getThreadMXBean();
        dearRun();
        long before = threads.getCurrentThreadAllocatedBytes();
        dearRun();
        long taken = threads.getCurrentThreadAllocatedBytes() - before;
        check(taken < 1000000, "a dear run takes " + taken + " bytes");
    }

    public static void main(String[] args) throws Exception {
        face();
        classes();
        words();
        room();
        System.out.println(wrong == 0 ? "language: all as due" : "language: " + wrong + " rules are broken");
        if (wrong != 0) System.exit(1);
    }
}
