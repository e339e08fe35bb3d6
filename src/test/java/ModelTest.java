import java.lang.reflect.Method;
import java.util.Arrays;
import java.util.HashMap;
import java.util.Map;
import java.util.Random;

/** Runs of calls, the same ones each time, asked of the program and of the model: all answers are alike. */
public final class ModelTest {
    private static final int RUNS = 1500;
    /** Of the 512 calls that an object is used for, some are left for the last call with all that it asks, and for counts. */
    private static final int MOST_CALLS = 512 - 21 - 60;
    private static final Map<String, Method> METHODS = new HashMap<>();
    private static final int[] WILD = {-1, -2, 11, 12, 100, -100, 1000, -1000, 1001, 10000, 100000, Integer.MAX_VALUE,
        Integer.MIN_VALUE};

    private static final String SIGNS = "0123456789abcdefghixyr()+-*/,\u0000\u00ff ";

    private final Random random;
    private final PatternHouse house = new PatternHouse();
    private final Model model = new Model();
    private final StringBuilder told = new StringBuilder();
    private final int wildness;
    private int setUp;
    private int made;
    private boolean good = true;

    private ModelTest(int seed) {
        random = new Random(seed);
        wildness = new int[] {0, 3, 8, 25}[seed % 4];
    }

    /** More runs, or fewer, if how many is told. */
    public static void main(String[] args) throws Exception {
        int runs = args.length > 0 ? Integer.parseInt(args[0]) : RUNS;
        for (Method method : PatternHouse.class.getDeclaredMethods()) {
            if ((method.getModifiers() & java.lang.reflect.Modifier.PUBLIC) != 0) METHODS.put(method.getName(), method);
        }
        int bad = 0;
        for (int seed = 0; seed < runs && bad < 3; seed++) {
            ModelTest run = new ModelTest(seed);
            run.go(seed);
            if (!run.good) {
                bad++;
                System.out.println("in the run of seed " + seed + " with\n" + run.told);
            }
        }
        Due.finish("ModelTest");
    }

    private long both(String name, long... args) throws Exception {
        made++;
        Method method = METHODS.get(name);
        Class<?>[] types = method.getParameterTypes();
        Object[] given = new Object[args.length];
        for (int k = 0; k < args.length; k++) {
            if (types[k] == long.class) given[k] = args[k];
            else if (types[k] == boolean.class) given[k] = args[k] != 0;
            else given[k] = (int) args[k];
        }
        long got = ((Number) method.invoke(house, given)).longValue();
        long want = model.call(name, args);
        told.append(name).append(Arrays.toString(args)).append(" -> ").append(got).append('\n');
        Due.due(name + Arrays.toString(args), got, want);
        good &= got == want;
        return got;
    }

    private void go(int seed) throws Exception {
        setUp();
        int calls = 80 + random.nextInt(250);
        for (int k = 0; k < calls && good && made < MOST_CALLS; k++) anyCall(random.nextInt(66));
        for (int what = -1; what < 20; what++) both("count", what);
        Due.holds("a run of " + made + " calls at most 512 long", made <= 512);
    }

    private void setUp() throws Exception {
        setUp = 1 + random.nextInt(5);
        for (int k = 0; k < setUp; k++) {
            int points = 3 + random.nextInt(4);
            int kind = k == 0 ? 0 : random.nextInt(4);
            long made = both("piece", kind, points, kind == 3 ? random.nextInt(model.pieces.size()) : -1);
            for (int p = 0; made >= 0 && p < points; p++) {
                if (kind == 3 && random.nextInt(2) == 0) continue;
                feed(simpleText(p));
                both("rule", made, p, 0);
            }
        }
        both("body", random.nextInt(11));
        for (int m = 0; m < 8; m++) both("table", m, random.nextInt(11), random.nextInt(300));
    }

    private void feed(String text) throws Exception {
        for (int at = 0; at < text.length(); at += 8) {
            int n = Math.min(8, text.length() - at);
            both("feed", n, Due.packed(text.substring(at, at + n)));
        }
    }

    // ---- arguments

    private boolean wild() {
        return random.nextInt(100) < wildness;
    }

    private int pick(int least, int most) {
        if (wild()) return random.nextBoolean() ? WILD[random.nextInt(WILD.length)] : random.nextBoolean() ? least - 1 : most + 1;
        if (random.nextInt(20) == 0) return random.nextBoolean() ? least : most;
        return least + random.nextInt(Math.max(1, most - least + 1));
    }

    /** Mostly one of the first ones, which have rules for all their points. */
    private int piece() {
        int many = random.nextInt(4) > 0 ? Math.min(setUp, model.pieces.size()) : model.pieces.size();
        return pick(0, many - 1);
    }

    private int point(int piece) {
        return pick(0, piece >= 0 && piece < model.pieces.size() ? model.pieces.get(piece)[1] - 1 : 3);
    }

    private int body() {
        return pick(0, model.bodySizes.size() - 1);
    }

    private int size() {
        return random.nextInt(3) == 0 ? 5 : pick(0, 10);
    }

    private int day() {
        return random.nextInt(3) > 0 ? model.day : pick(0, Math.min(1000, model.day + 5));
    }

    private String simpleText(int p) {
        String one = random.nextInt(4) == 0 ? unit(p, 0) : "" + random.nextInt(200);
        String two = random.nextInt(4) == 0 ? unit(p, 0) : "" + random.nextInt(200);
        return one + "," + two;
    }

    private String unit(int p, int depth) {
        switch (random.nextInt(depth > 5 ? 5 : 8)) {
            case 0: return "" + random.nextInt(random.nextBoolean() ? 10 : 10000);
            case 1:
            case 2: return "" + (char) ('a' + random.nextInt(8));
            case 3:
            case 4: return p == 0 ? "7" : (random.nextBoolean() ? "x" : "y") + random.nextInt(p);
            case 5: return "r(" + sum(p, depth + 1) + ")";
            default: return "(" + sum(p, depth + 1) + ")";
        }
    }

    private String sum(int p, int depth) {
        StringBuilder out = new StringBuilder(unit(p, depth));
        for (int n = random.nextInt(3); n > 0; n--) out.append("+-*/".charAt(random.nextInt(4))).append(unit(p, depth));
        return out.toString();
    }

    private String text(int p) {
        int point = Math.max(0, Math.min(9, p));
        String out = sum(point, 0) + "," + sum(point, 0);
        if (random.nextInt(4) == 0) {
            int at = random.nextInt(out.length());
            String sign = "" + SIGNS.charAt(random.nextInt(SIGNS.length()));
            out = out.substring(0, at) + (random.nextBoolean() ? sign : "") + out.substring(at + random.nextInt(2));
        }
        return out.length() > 60 ? out.substring(0, 60) : out;
    }

    // ---- calls

    private void anyCall(int which) throws Exception {
        int piece = piece();
        int point = point(piece);
        switch (which) {
            case 0: if (random.nextInt(3) == 0) both("days", pick(1, random.nextInt(20) == 0 ? 1000 : 3)); break;
            case 1: both("table", pick(0, 7), size(), pick(0, random.nextInt(5) == 0 ? 9999 : 300)); break;
            case 2: both("tabled", pick(0, 7), size(), day()); break;
            case 3: both("body", size()); break;
            case 4: both("measure", body(), pick(0, 7), pick(-1, 300)); break;
            case 5: both("measured", body(), pick(0, 7)); break;
            case 6: {
                int kind = pick(0, 3);
                both("piece", kind, pick(3, 10), kind == 3 || wild() ? piece : -1);
                break;
            }
            case 7: if (random.nextInt(8) == 0) both("withdraw", piece); break;
            case 8: case 9: case 10: {
                if (model.text.isEmpty() || random.nextBoolean()) feed(random.nextInt(6) == 0 ? text(point) : simpleText(Math.max(0, point)));
                both("rule", piece, point, random.nextInt(4) > 0 ? model.day : pick(model.day, Math.min(1000, model.day + 4)));
                break;
            }
            case 11: both("feed", pick(1, 8), random.nextLong()); if (random.nextInt(2) == 0) both("rule", piece, point, model.day); break;
            case 12: both("quarrel", piece, point, day()); break;
            case 13: case 14: both("from", piece, point, day()); break;
            case 15: both("grade", piece, point, pick(-99, 99), pick(-99, 99)); break;
            case 16: case 17: both("alter", piece, point, body(), pick(-999, 999), pick(-999, 999)); break;
            case 18: case 19: both("curve", piece, point, pick(-60, 60), pick(-60, 60)); break;
            case 20: both("straight", piece, point); break;
            case 21: case 22: case 23: both("at", piece, point, size(), day(), pick(0, 1)); break;
            case 24: case 25: both("on", piece, point, body(), pick(0, 1)); break;
            case 26: case 27: both("length", piece, point, point(piece), size(), day()); break;
            case 28: both("lengthOn", piece, point, point(piece), body()); break;
            case 29: both("area", piece, size(), day()); break;
            case 30: {
                int other = piece();
                int least = pick(-999, 200);
                both("seam", piece, point, point(piece), other, point(other), point(other), least, pick(least, 999));
                break;
            }
            case 31: case 32: both("notch", seam(), pick(0, 150), pick(0, 150)); break;
            case 33: both("gather", seam(), pick(0, 999)); break;
            case 34: both("ease", seam(), size(), day()); break;
            case 35: both("meets", seam(), size(), day()); break;
            case 36: both("lost", seam(), size(), day()); break;
            case 37: both("wrong", day()); break;
            default: anyOtherCall(which, piece, point);
        }
    }

    private int seam() {
        return pick(0, model.seams.size() - 1);
    }

    private void anyOtherCall(int which, int piece, int point) throws Exception {
        switch (which) {
            case 38: case 39: condition(); break;
            case 40: if (random.nextInt(2) == 0) both("free"); break;
            case 41: case 42: both("least", pick(0, 5), pick(0, 1)); break;
            case 43: {
                int what = pick(0, 5);
                int least = what == 0 ? 8 : what == 1 ? 5 : 0;
                if (random.nextInt(6) == 0 && what < 2) least = 1;
                both("cloth", what, pick(least, new int[] {24, 30, 1, 12, 50, 50, 9}[Math.max(0, Math.min(6, what))]));
                break;
            }
            case 44: case 45: both("cells", piece, size(), day()); break;
            case 46: case 47: both("lays", piece, size()); break;
            case 48: if (random.nextInt(3) == 0) both("clear"); break;
            case 49: both("shortest", pick(0, 1)); break;
            case 50: both("place", pick(0, model.marker.size() - 1), pick(0, 2)); break;
            case 51: case 52: judge(); break;
            case 53: both("cut", pick(-99999, 99999), pick(0, 1), random.nextInt(2)); break;
            case 54: case 55: trial(piece, point); break;
            case 56: if (random.nextInt(2) == 0) both("edition"); break;
            case 57: both("holds", piece, size()); break;
            case 58: case 59: word(); break;
            case 60: both("firstWrong", pick(0, model.editions.size() - 1)); break;
            case 61: both("fault", piece); break;
            case 62: both("order", pick(0, 4), pick(0, random.nextInt(3) > 0 ? 20 : 99)); break;
            case 63: if (model.markers.size() < 3 || random.nextInt(60) == 0) both("marker", counts(), pick(1, 99)); break;
            case 64: if (model.markers.size() < 5 || random.nextInt(9) == 0) both("season"); break;
            default:
                if (model.markers.size() < 5 || random.nextInt(9) == 0) both("often", pick(0, model.markers.size() - 1));
        }
    }

    private int counts() {
        if (wild()) return pick(1, 99999);
        int counts = 0;
        for (int s = 0; s < 5; s++) counts = counts * 10 + random.nextInt(10);
        return Math.max(1, counts);
    }

    private void condition() throws Exception {
        long[] c = new long[7];
        int width = random.nextInt(3) == 0 ? 99 : 2;
        for (int i = 0; i < 6; i++) c[i] = random.nextInt(3) == 0 ? 0 : pick(-width, width);
        c[6] = pick(-9999, 9999);
        if (!model.conditions.isEmpty() && random.nextInt(2) == 0) {
            int times = random.nextInt(5) - 2;
            for (int i = 0; i < 7; i++) c[i] = times * model.conditions.get(0)[i] + (i == 6 ? random.nextInt(2) : 0);
        }
        both("condition", c);
    }

    private void trial(int piece, int point) throws Exception {
        int to = point(piece);
        int body = body();
        long drawn = both("lengthOn", piece, point, to, body);
        int doubt = pick(0, 60);
        both("trial", piece, body, point, to, pick((int) Math.max(0, drawn - 50), (int) Math.max(0, drawn + 50)), doubt);
        both("said", piece, body, point, to, pick(0, 2));
        if (random.nextBoolean()) both("said", piece, body, point, to, 2);
    }

    private void word() throws Exception {
        int edition = pick(0, model.editions.size() - 1);
        int i = pick(0, 3);
        int what = pick(0, 2);
        long says = pick(0, 1000000000);
        if (edition >= 0 && edition < model.editions.size() && i >= 0 && i < model.editions.get(edition).held().size()) {
            Model.Held held = model.editions.get(edition).held().get(i);
            int day = model.editions.get(edition).day();
            if (what == 0) says = model.pieces.get(held.piece())[1];
            if (what == 1) says = both("length", held.piece(), 0, 0, held.size(), day);
            if (what == 2) says = both("area", held.piece(), held.size(), day);
        }
        both("word", edition, i, what, says);
    }

    private void judge() throws Exception {
        int wanted = 3 * model.marker.size();
        for (int k = model.row.size(); k < wanted; k++) {
            int what = k % 3;
            long best = both("place", k / 3, what);
            boolean asBest = best >= 0 && random.nextInt(6) > 0;
            both("put", asBest ? best : pick(0, what == 2 ? 1 : 12));
        }
        if (random.nextInt(10) == 0) both("put", pick(0, 95));
        both("judge");
    }
}
