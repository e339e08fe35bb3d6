import java.lang.reflect.Constructor;
import java.lang.reflect.Field;
import java.lang.reflect.Method;
import java.lang.reflect.Modifier;
import java.nio.file.Files;
import java.nio.file.Path;
import java.util.Arrays;
import java.util.List;
import java.util.Set;
import java.util.TreeSet;
import java.util.regex.Matcher;
import java.util.regex.Pattern;

/** The public face of the document, and those rules of LANGUAGE.md that can be seen from outside or by words. */
public final class FaceTest {
    private static final String FACE = """
        int days(int)
        int table(int, int, int)
        int tabled(int, int, int)
        int body(int)
        int measure(int, int, int)
        int measured(int, int)
        int piece(int, int, int)
        int withdraw(int)
        int feed(int, long)
        int rule(int, int, int)
        int quarrel(int, int, int)
        int from(int, int, int)
        int grade(int, int, int, int)
        int alter(int, int, int, int, int)
        int curve(int, int, int, int)
        int straight(int, int)
        int at(int, int, int, int, int)
        int on(int, int, int, int)
        int length(int, int, int, int, int)
        int lengthOn(int, int, int, int)
        long area(int, int, int)
        int seam(int, int, int, int, int, int, int, int)
        int notch(int, int, int)
        int gather(int, int)
        int ease(int, int, int)
        int meets(int, int, int)
        int lost(int, int, int)
        int wrong(int)
        int condition(int, int, int, int, int, int, int)
        int free()
        long least(int, int)
        int cloth(int, int)
        int cells(int, int, int)
        int lays(int, int)
        int clear()
        int shortest(int)
        int place(int, int)
        int put(int)
        int judge()
        int cut(int, int, boolean)
        int trial(int, int, int, int, int, int)
        int said(int, int, int, int, int)
        int edition()
        int holds(int, int)
        int word(int, int, int, int)
        int firstWrong(int)
        int fault(int)
        int order(int, int)
        int marker(int, int)
        int season()
        int often(int)
        int count(int)
        """;

    public static void main(String[] args) throws Exception {
        face();
        classesInside();
        words(Files.readString(Path.of("src/main/java/PatternHouse.java")));
        Due.finish("FaceTest");
    }

    private static void face() {
        Class<?> house = PatternHouse.class;
        Due.holds("1: public and final", Modifier.isPublic(house.getModifiers()) && Modifier.isFinal(house.getModifiers()));
        Constructor<?>[] makers = house.getDeclaredConstructors();
        Due.due("1: one constructor", makers.length, 1);
        Due.holds("1: it is public and takes nothing",
            Modifier.isPublic(makers[0].getModifiers()) && makers[0].getParameterCount() == 0);
        Set<String> wanted = new TreeSet<>(Arrays.asList(FACE.strip().split("\n")));
        Set<String> found = new TreeSet<>();
        for (Method method : house.getDeclaredMethods()) {
            boolean open = Modifier.isPublic(method.getModifiers());
            Due.holds("rule 1: " + method.getName() + " is public or private", open || Modifier.isPrivate(method.getModifiers()));
            if (open) found.add(told(method));
        }
        Due.holds("the face is the document's: " + found, found.equals(wanted));
        for (Field field : house.getDeclaredFields()) {
            Due.holds("rule 1: " + field.getName() + " is private", Modifier.isPrivate(field.getModifiers()));
        }
    }

    private static String told(Method method) {
        String types = Arrays.toString(Arrays.stream(method.getParameterTypes()).map(Class::getName).toArray());
        return method.getReturnType().getName() + " " + method.getName() + "(" + types.substring(1, types.length() - 1) + ")";
    }

    private static void classesInside() {
        Class<?>[] inside = PatternHouse.class.getDeclaredClasses();
        Due.holds("rule 11: some twelve classes", inside.length <= 12);
        Set<String> open = new TreeSet<>();
        for (Method method : PatternHouse.class.getMethods()) open.add(method.getName());
        for (Class<?> one : inside) {
            Due.holds("rule 1: " + one + " is private and static",
                Modifier.isPrivate(one.getModifiers()) && Modifier.isStatic(one.getModifiers()));
            for (Method method : one.getDeclaredMethods()) {
                Due.holds("rule 1: no name of the face: " + method, !open.contains(method.getName()));
            }
        }
        for (Method method : PatternHouse.class.getDeclaredMethods()) {
            if (Modifier.isPrivate(method.getModifiers())) {
                Due.holds("rule 1: no name of the face: " + method, !open.contains(method.getName()));
            }
        }
        List<Class<?>> all = new java.util.ArrayList<>(Arrays.asList(inside));
        all.add(PatternHouse.class);
        for (Class<?> one : all) fieldsAndParameters(one);
    }

    private static void fieldsAndParameters(Class<?> one) {
        int fields = 0;
        for (Field field : one.getDeclaredFields()) {
            boolean still = Modifier.isStatic(field.getModifiers());
            if (!still) fields++;
            if (still) Due.holds("rule 5: " + field + " is final", Modifier.isFinal(field.getModifiers()));
        }
        Due.holds("rule 11: some twenty fields of " + one, fields <= 20);
        for (Method method : one.getDeclaredMethods()) {
            boolean eight = method.getName().equals("seam");
            Due.holds("rule 11: seven parameters of " + method, eight || method.getParameterCount() <= 7);
        }
    }

    private static void words(String source) {
        String code = source.replaceAll("(?s)/\\*.*?\\*/", "").replaceAll("//[^\n]*", "");
        String[] barred = {"throw", "throws", "try", "catch", "synchronized", "assert", "package", "var", "yield", "->", "::",
            "Exact(", "System.out", "Long.MIN", "Long.MAX", "Integer.MIN", "Integer.MAX", "Random", "nanoTime", "double", "float"};
        for (String word : barred) {
            String quoted = Character.isLetter(word.charAt(0)) ? "\\b" + Pattern.quote(word) : Pattern.quote(word);
            String whole = Character.isLetter(word.charAt(word.length() - 1)) ? quoted + "\\b" : quoted;
            Due.holds("no " + word, !Pattern.compile(whole).matcher(code).find());
        }
        Matcher calls = Pattern.compile("\\b(Math|Integer|Long|Arrays|System|String)\\.(\\w+)").matcher(code);
        Set<String> known = Set.of("Math.min", "Math.max", "Math.abs", "Math.floorDiv", "Math.floorMod", "Integer.bitCount",
            "Arrays.fill", "Arrays.copyOf", "Arrays.copyOfRange", "System.arraycopy");
        while (calls.find()) Due.holds("rule 4: " + calls.group(), known.contains(calls.group()));
        Matcher imports = Pattern.compile("import ([\\w.]+);").matcher(code);
        while (imports.find()) Due.holds("rule 4: " + imports.group(1), imports.group(1).equals("java.util.Arrays"));
        Due.holds("rule 11: methods stay short", longestBlock(source) <= 60);
    }

    /** Lines of the longest block that begins at a method's indent. */
    private static int longestBlock(String source) {
        String[] lines = source.split("\n");
        int longest = 0;
        for (int k = 0; k < lines.length; k++) {
            Matcher opens = Pattern.compile("^( {4}| {8})\\S.*\\) \\{$").matcher(lines[k]);
            if (!opens.find()) continue;
            int end = k;
            while (end < lines.length && !lines[end].equals(opens.group(1) + "}")) end++;
            longest = Math.max(longest, end - k + 1);
        }
        return longest;
    }
}
