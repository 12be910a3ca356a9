import java.lang.reflect.InvocationTargetException;
import java.lang.reflect.Method;
import java.lang.reflect.Modifier;
import java.util.ArrayList;
import java.util.Arrays;
import java.util.HashMap;
import java.util.List;
import java.util.Map;
import java.util.TreeMap;
import java.util.regex.Matcher;
import java.util.regex.Pattern;

/** Calls as texts, such as "place(3, 0) street(0, 1, 4)", for objects of DripLines and of Reference. */
final class Calls {
    private static final Pattern CALL = Pattern.compile("(!?)(\\w+)\\(([^)]*)\\)\\s*");
    private static final List<String> QUESTIONS = List.of("told", "streetTold", "count", "apart", "way", "span", "least",
        "many", "best", "must", "most", "why", "tag", "walls", "wall", "bound", "trace", "status");
    private static final Map<Class<?>, TreeMap<String, Method>> FACES = new HashMap<>();
    private static final Map<String, List<Call>> READ = new HashMap<>();

    private Calls() { }

    /** A call that is marked with '!' in the text is one that is refused there. */
    record Call(String name, Object[] numbers, boolean refused) {
        boolean isQuestion() { return QUESTIONS.contains(name); }

        String text() {
            String row = Arrays.toString(numbers);
            return name + "(" + row.substring(1, row.length() - 1) + ")";
        }
    }

    static List<Call> read(String text) {
        List<Call> known = READ.get(text);
        if (known != null) return known;
        List<Call> calls = new ArrayList<>();
        Matcher found = CALL.matcher(text);
        int at = 0;
        while (at < text.length()) {
            if (!found.find(at) || found.start() != at) throw new IllegalArgumentException(text.substring(at));
            calls.add(new Call(found.group(2), numbers(found.group(3)), !found.group(1).isEmpty()));
            at = found.end();
        }
        READ.put(text, calls);
        return calls;
    }

    private static Object[] numbers(String text) {
        if (text.isBlank()) return new Object[0];
        return Arrays.stream(text.split(",")).map(number -> Integer.valueOf(number.trim())).toArray();
    }

    /** The public methods by their names. */
    static TreeMap<String, Method> face(Class<?> of) {
        return FACES.computeIfAbsent(of, key -> {
            TreeMap<String, Method> methods = new TreeMap<>();
            for (Method m : of.getDeclaredMethods()) if (Modifier.isPublic(m.getModifiers())) methods.put(m.getName(), m);
            return methods;
        });
    }

    static int run(Object on, Call call) {
        Method method = face(on.getClass()).get(call.name);
        if (method == null) throw new IllegalArgumentException(call.name);
        try {
            return (int) method.invoke(on, call.numbers);
        } catch (InvocationTargetException thrown) {
            throw new IllegalStateException(call.text() + " threw", thrown.getCause());
        } catch (IllegalAccessException impossible) {
            throw new IllegalStateException(impossible);
        }
    }
}
