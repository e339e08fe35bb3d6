import java.lang.reflect.InvocationTargetException;
import java.lang.reflect.Method;
import java.lang.reflect.Modifier;
import java.util.Arrays;
import java.util.HashMap;
import java.util.List;
import java.util.Map;
import java.util.Set;

/** A new house whose calls are made by their names; never more of them than the document speaks of. */
final class Calls {
    private static final int MOST_CALLS = 512;
    private static final Map<String, Method> METHODS = methods();
    private static final List<String> APART = List.of("measure", "at", "on", "ease", "least", "cut", "said");

    private final PatternHouse house = new PatternHouse();
    private final Model model;
    private int made;

    private Calls(Model model) {
        this.model = model;
    }

    static Calls plain() {
        return new Calls(null);
    }

    /** Each answer is compared with the model's. */
    static Calls withModel() {
        return new Calls(new Model());
    }

    private static Map<String, Method> methods() {
        Map<String, Method> found = new HashMap<>();
        for (Method method : PatternHouse.class.getDeclaredMethods()) {
            if (Modifier.isPublic(method.getModifiers())) found.put(method.getName(), method);
        }
        return found;
    }

    static Set<String> names() {
        return METHODS.keySet();
    }

    static Class<?>[] takes(String name) {
        return METHODS.get(name).getParameterTypes();
    }

    static Class<?> answers(String name) {
        return METHODS.get(name).getReturnType();
    }

    /** What a refused call answers: of some calls it is 1000000000 less the refusal. */
    static long asAnswered(String name, int why) {
        return APART.contains(name) ? 1000000000L - why : why;
    }

    static String told(String name, long... args) {
        return name + Arrays.toString(args);
    }

    long ask(String name, long... args) {
        made++;
        if (made > MOST_CALLS) throw new IllegalStateException("more than 512 calls, at " + told(name, args));
        long got = answered(METHODS.get(name), args);
        if (model != null) Due.due(told(name, args) + ", as the model says", got, model.call(name, args));
        return got;
    }

    private long answered(Method method, long... args) {
        Class<?>[] types = method.getParameterTypes();
        Object[] given = new Object[args.length];
        for (int k = 0; k < args.length; k++) {
            if (types[k] == long.class) given[k] = args[k];
            else if (types[k] == boolean.class) given[k] = args[k] != 0;
            else given[k] = Math.toIntExact(args[k]);
        }
        try {
            return ((Number) method.invoke(house, given)).longValue();
        } catch (IllegalAccessException | InvocationTargetException broke) {
            throw new IllegalStateException(told(method.getName(), args) + " broke", broke);
        }
    }

    /** Feeds a text, eight bytes at a time at most. */
    void feed(String text) {
        for (int at = 0; at < text.length(); at += 8) {
            int n = Math.min(8, text.length() - at);
            ask("feed", n, Due.packed(text.substring(at, at + n)));
        }
    }

    void rule(int piece, int point, int from, String text) {
        feed(text);
        ask("rule", piece, point, from);
    }

    /** Refusals -1 to -7, how many there were of each. */
    long[] refusals() {
        long[] many = new long[7];
        for (int k = 0; k < 7; k++) many[k] = ask("count", 11 + k);
        return many;
    }
}
