/** Promises 30 to 32: conditions and the least moves. */
public final class MovesTest {
    public static void main(String[] args) {
        condition();
        free();
        least();
        barred();
        likeRefusals();
        Due.finish("MovesTest");
    }

    private static void condition() {
        PatternHouse x = new PatternHouse();
        int[] c = new int[7];
        for (int k = 0; k < 7; k++) {
            int most = k < 6 ? 99 : 9999;
            c[k] = -most - 1;
            Due.due("30: " + k + " below", tell(x, c), -4);
            c[(k + 1) % 7] = 10000;
            Due.due("30: " + k + " below first", tell(x, c), -4);
            c[(k + 1) % 7] = 0;
            c[k] = most + 1;
            Due.due("30: " + k + " above", tell(x, c), -6);
            c[k] = 0;
        }
        Due.due("30: none yet", x.count(5), 0);
        Due.due("30: the least", x.condition(-99, -99, -99, -99, -99, -99, -9999), 1);
        Due.due("30: the greatest", x.condition(99, 99, 99, 99, 99, 99, 9999), 2);
        Due.due("30: a third", x.condition(0, 0, 0, 0, 0, 0, 0), -6);
        Due.due("30: below ahead of that", x.condition(-100, 0, 0, 0, 0, 0, 0), -4);
    }

    private static int tell(PatternHouse x, int[] c) {
        return x.condition(c[0], c[1], c[2], c[3], c[4], c[5], c[6]);
    }

    private static void free() {
        PatternHouse x = new PatternHouse();
        Due.due("31: none", x.free(), 0);
        x.condition(1, 0, 0, 0, 0, 0, 1);
        x.condition(0, 1, 0, 0, 0, 0, 1);
        Due.due("31: two", x.free(), 2);
        Due.due("31: none then", x.count(5), 0);
        Due.due("31: no moves then", x.least(0, 0), 0);
        x.condition(2, 0, 0, 0, 0, 0, 1);
        Due.due("31: a half", x.least(0, 1), 2);
        Due.due("31: one", x.free(), 1);
        Due.due("31: 0 by 1 then", x.least(0, 1), 1);
        x.condition(1, 0, 0, 0, 0, 0, 5);
        Due.due("31: five", x.least(0, 0), 5);
        x.free();
        Due.due("31: 0 then", x.least(0, 0), 0);
        Due.due("31: told anew", x.condition(0, 0, 0, 0, 0, 2, 1), 1);
        Due.due("31: the new one alone counts", x.least(5, 1), 2);
    }

    private static void moves(String when, PatternHouse x, long... dues) {
        for (int i = 0; i < 6; i++) {
            Due.due("32: " + when + ", above, of " + i, x.least(i, 0), dues[2 * i]);
            Due.due("32: " + when + ", below, of " + i, x.least(i, 1), dues[2 * i + 1]);
        }
    }

    private static void least() {
        PatternHouse x = new PatternHouse();
        moves("without", x, 0, 1, 0, 1, 0, 1, 0, 1, 0, 1, 0, 1);
        x.condition(1, 2, 3, 0, 0, -1, 5);
        moves("one", x, 1, 3, 2, 3, 1, 1, 0, 1, 0, 1, -1, 3);
        x.condition(0, 0, 0, 4, 0, 0, -6);
        moves("two square ones", x, 1, 3, 2, 3, 1, 1, -3, 2, 0, 1, -1, 3);
        x.free();
        x.condition(1, 1, 0, 0, 0, 0, 10);
        x.condition(0, 1, 1, 0, 0, 0, 4);
        moves("two", x, 16, 3, 14, 3, -2, 3, 0, 1, 0, 1, 0, 1);
        x.free();
        x.condition(2, 4, 0, 0, 0, 0, 10);
        x.condition(-3, -6, 0, 0, 0, 0, -15);
        moves("one and its multiple", x, 1, 1, 2, 1, 0, 1, 0, 1, 0, 1, 0, 1);
        x.free();
        x.condition(0, 0, 0, 0, 0, 0, 0);
        moves("nothing", x, 0, 1, 0, 1, 0, 1, 0, 1, 0, 1, 0, 1);
        x.condition(0, 0, 0, 0, 0, 3, -7);
        moves("nothing and one", x, 0, 1, 0, 1, 0, 1, 0, 1, 0, 1, -7, 3);
        x.free();
        x.condition(0, 0, 0, 0, 0, 3, -7);
        x.condition(0, 0, 0, 0, 0, 0, 0);
        moves("one and nothing", x, 0, 1, 0, 1, 0, 1, 0, 1, 0, 1, -7, 3);
        each();
        x.free();
        x.condition(99, -99, 98, -97, 96, 95, 9999);
        x.condition(-99, 99, -98, 97, -96, 94, -9998);
        // their sum: 189 m5 = 1; the rest is as the first one's coefficients
        Due.due("32: great ones, above", x.least(5, 0), 1);
        Due.due("32: great ones, below", x.least(5, 1), 189);
        Due.due("32: no such move", x.least(6, 2), 1000000001);
        Due.due("32: move -1", x.least(-1, 0), 1000000001);
        Due.due("32: no such part", x.least(0, 2), 1000000002);
        Due.due("32: part -1", x.least(0, -1), 1000000002);
        Due.refused(x, "of least", 2, 2);
    }

    /** Each coefficient alone moves its own, as the first condition and as the second. */
    private static void each() {
        for (int i = 0; i < 6; i++) {
            PatternHouse x = new PatternHouse();
            for (int k = 0; k < 2; k++) {
                int[] c = new int[7];
                c[(i + k) % 6] = 2 - 5 * k;
                c[6] = 9 - 8 * k;
                tell(x, c);
            }
            long[] dues = {0, 1, 0, 1, 0, 1, 0, 1, 0, 1, 0, 1};
            dues[2 * i] = 9;
            dues[2 * i + 1] = 2;
            dues[2 * ((i + 1) % 6)] = -1;
            dues[2 * ((i + 1) % 6) + 1] = 3;
            moves("of " + i + " and the next alone", x, dues);
        }
    }

    private static void barred() {
        PatternHouse x = new PatternHouse();
        x.condition(1, 2, 0, 0, 0, 0, 5);
        x.condition(2, 4, 0, 0, 0, 0, 11);
        Due.due("32: a multiple with another sum", x.least(3, 0), 1000000003);
        Due.due("32: part 1, too", x.least(3, 1), 1000000003);
        Due.due("32: the part first", x.least(3, 2), 1000000002);
        x.free();
        x.condition(0, 0, 0, 0, 0, 0, 1);
        Due.due("32: of nothing", x.least(0, 0), 1000000003);
        x.condition(0, 0, 0, 0, 0, 0, 1);
        Due.due("32: of nothing, twice", x.least(0, 0), 1000000003);
        x.free();
        x.condition(0, 0, 0, 0, 0, 0, 1);
        x.condition(0, 0, 0, 0, 0, 0, 0);
        Due.due("32: the first of nothing, the second nothing at all", x.least(0, 0), 1000000003);
        x.free();
        x.condition(0, 0, 0, 0, 0, 0, 0);
        x.condition(0, 0, 0, 0, 0, 0, -1);
        Due.due("32: the second of nothing, the first nothing at all", x.least(0, 0), 1000000003);
        x.free();
        x.condition(1, 0, 0, 0, 0, 0, 1);
        x.condition(0, 0, 0, 0, 0, 0, -1);
        Due.due("32: the second of nothing", x.least(0, 0), 1000000003);
        x.free();
        x.condition(0, 0, 0, 0, 0, 0, 2);
        x.condition(0, 0, 7, 0, 0, 0, 0);
        Due.due("32: the first of nothing", x.least(0, 0), 1000000003);
        x.free();
        x.condition(0, 3, 0, 0, 0, -3, 0);
        x.condition(0, 1, 0, 0, 0, -1, 0);
        Due.due("32: sums of 0 agree", x.least(1, 0), 0);
        x.free();
        x.condition(0, 3, 0, 0, 0, -3, 0);
        x.condition(0, 1, 0, 0, 0, -1, 1);
        Due.due("32: 0 and 1 don't", x.least(1, 0), 1000000003);
        x.free();
        x.condition(0, 2, 0, 0, 0, 0, 10);
        x.condition(0, 1, 0, 0, 0, 0, 5);
        Due.due("32: sums that are multiples, too, agree", x.least(1, 0), 5);
        x.free();
        x.condition(0, -1, 0, 0, 0, 0, -5);
        x.condition(0, 2, 0, 0, 0, 0, 10);
        Due.due("32: the other way round, too", x.least(1, 0), 5);
        for (int i = 0; i < 6; i++) {
            x.free();
            int[] c = new int[7];
            c[i] = 2;
            c[6] = 10;
            tell(x, c);
            c[i] = 1;
            c[6] = 4;
            tell(x, c);
            Due.due("32: barred by coefficient " + i + " alone", x.least(0, 0), 1000000003);
        }
    }

    /** Moves that are the numbers of refusals: they are answers all the same, and nothing is counted. */
    private static void likeRefusals() {
        PatternHouse x = new PatternHouse();
        x.condition(5, 8, 75, 10, 38, -61, -21);
        x.condition(-9, -76, 2, 35, -36, -50, -9407);
        Due.due("32: as 1 refused, above", x.least(0, 0), 1000000001);
        Due.due("32: as 1 refused, below", x.least(0, 1), 117135637);
        x.free();
        x.condition(-11, 83, -55, -72, -59, 33, 1);
        x.condition(10, -30, -52, 31, -81, -24, 4545);
        Due.due("32: as 3 refused, above", x.least(0, 0), 1000000003);
        Due.due("32: as 3 refused, below", x.least(0, 1), 229489553);
        x.free();
        x.condition(16, 55, -39, 96, 51, 26, -139);
        x.condition(-49, -13, -88, -25, -27, -94, -1305);
        Due.due("32: as 7 refused, above", x.least(0, 0), 1000000007);
        Due.due("32: as 7 refused, below", x.least(0, 1), 336229736);
        Due.refused(x, "of moves like refusals");
    }
}
