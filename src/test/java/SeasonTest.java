/** Promises 49 to 53: a season's orders and markers, and what is counted. */
public final class SeasonTest {
    public static void main(String[] args) {
        order();
        marker();
        season();
        often();
        dearSeasons();
        count();
        Due.finish("SeasonTest");
    }

    private static void order() {
        PatternHouse x = new PatternHouse();
        Due.due("49: 0 at first", x.order(4, 99), 0);
        Due.due("49: what they were", x.order(4, 0), 99);
        Due.due("49: size 5", x.order(5, -1), -1);
        Due.due("49: size -1", x.order(-1, 0), -1);
        Due.due("49: below", x.order(0, -1), -4);
        Due.due("49: above", x.order(0, 100), -6);
        Due.due("49: as it was", x.order(0, 1), 0);
    }

    private static void marker() {
        PatternHouse x = new PatternHouse();
        Due.due("50: counts below first", x.marker(0, 10000), -4);
        Due.due("50: counts -1", x.marker(-1, 1), -4);
        Due.due("50: cloth below first", x.marker(100000, 0), -4);
        Due.due("50: counts above", x.marker(100000, 1), -6);
        Due.due("50: cloth above", x.marker(1, 10000), -6);
        for (int k = 0; k < 6; k++) Due.due("50: marker " + k, x.marker(k == 0 ? 99999 : 1, k == 0 ? 9999 : 1), k);
        Due.due("50: a seventh", x.marker(1, 1), -6);
        Due.due("50: below first", x.marker(0, 1), -4);
    }

    private static void season() {
        PatternHouse x = new PatternHouse();
        Due.due("51: nothing ordered", x.season(), 0);
        x.order(0, 9);
        Due.due("51: no marker", x.season(), -9);
        x.marker(1, 7);
        Due.due("51: nine times", x.season(), 63);
        x.order(0, 10);
        Due.due("51: not ten times", x.season(), -9);
        x.marker(2, 15);
        Due.due("51: the other one once", x.season(), 8 * 7 + 15);
        x.marker(9, 9999);
        Due.due("51: one that is too dear", x.season(), 71);
        x.order(4, 3);
        Due.due("51: nothing makes size 4", x.season(), -9);
        x.marker(20003, 30);
        Due.due("51: more than is ordered", x.season(), 60 + 4 * 7);
        x.order(0, 0);
        x.order(4, 0);
        Due.due("51: nothing is ordered any more", x.season(), 0);
        x.order(0, 99);
        Due.due("51: the most", x.season(), 5 * 9999 + 9 * (7 + 15 + 30));
        oneLess();
        PatternHouse all = new PatternHouse();
        for (int s = 0; s < 5; s++) all.order(s, 81);
        all.marker(99999, 9999);
        Due.due("51: the fullest marker", all.season(), 9 * 9999);
        all.order(2, 82);
        Due.due("51: one too many", all.season(), -9);
        Due.refused(all, "of season");
    }

    /** What comes later takes just one less. */
    private static void oneLess() {
        PatternHouse x = new PatternHouse();
        x.order(0, 1);
        x.marker(1, 9);
        x.marker(1, 10);
        Due.due("51: one less", x.season(), 9);
        Due.due("52: one less, the first", x.often(0), 1);
        Due.due("52: one less, the second", x.often(1), 0);
        PatternHouse y = new PatternHouse();
        y.order(0, 3);
        y.marker(2, 7);
        y.marker(1, 4);
        Due.due("51: one less by both", y.season(), 11);
        Due.due("52: one less by both, the first", y.often(0), 1);
        Due.due("52: one less by both, the second", y.often(1), 1);
    }

    private static void often() {
        PatternHouse x = new PatternHouse();
        Due.due("52: no marker", x.often(0), -1);
        x.order(0, 4);
        x.order(1, 4);
        x.marker(11, 10);
        x.marker(11, 10);
        x.marker(22, 20);
        x.marker(1, 5);
        x.marker(10, 5);
        int[] dues = {0, 0, 0, 4, 4};
        Due.due("51: of several", x.season(), 40);
        for (int m = 0; m < 5; m++) Due.due("52: less first, of " + m, x.often(m), dues[m]);
        x.order(0, 30);
        x.order(1, 13);
        // size 0 by itself makes nine of the thirty: 21 are left for those that make both, which is enough of size 1
        int[] more = {0, 3, 9, 9, 0};
        Due.due("51: of more", x.season(), 255);
        for (int m = 0; m < 5; m++) Due.due("52: of more, " + m, x.often(m), more[m]);
        Due.due("52: no such marker", x.often(5), -1);
        Due.due("52: marker -1", x.often(-1), -1);
        x.order(4, 1);
        Due.due("52: none", x.often(0), -9);
        Due.due("52: no such marker first", x.often(5), -1);
        PatternHouse y = new PatternHouse();
        y.order(0, 3);
        y.marker(1, 4);
        y.marker(2, 6);
        y.marker(3, 10);
        // 10: once the third; once the first and once the second; 12: twice the second
        Due.due("51: equal cloth", y.season(), 10);
        Due.due("52: equal cloth, less of the first", y.often(0), 0);
        Due.due("52: equal cloth, less of the second", y.often(1), 0);
        Due.due("52: equal cloth, the third", y.often(2), 1);
    }

    /** Seasons in which a search can leave out least, against all ways one by one. */
    private static void dearSeasons() {
        int[][] orders = {{90, 89, 36, 63, 56}, {75, 68, 81, 94, 96}, {77, 87, 99, 92, 4}, {92, 25, 96, 91, 58}, {84, 91, 75, 93, 98}};
        int[][] counts = {{20320, 14311, 1716, 22153, 5727, 78791}, {12334, 42102, 9060, 10613, 90238, 19863},
            {42326, 22410, 81040, 54384, 11643, 79377}, {3021, 6512, 34822, 753, 28238, 63999},
            {43100, 21410, 23211, 3612, 62047, 88764}};
        int[][] cloths = {{385, 387, 5524, 5524, 8173, 7588}, {812, 2088, 814, 2125, 3624, 3620},
            {375, 4778, 1302, 6098, 7402, 8219}, {439, 439, 440, 440, 441, 9827}, {92, 3833, 662, 2362, 9187, 94}};
        for (int k = 0; k < orders.length; k++) {
            PatternHouse x = new PatternHouse();
            for (int s = 0; s < 5; s++) x.order(s, orders[k][s]);
            for (int m = 0; m < 6; m++) x.marker(counts[k][m], cloths[k][m]);
            int[] best = bestOfAll(orders[k], counts[k], cloths[k]);
            Due.due("51: dear season " + k, x.season(), best[0]);
            for (int m = 0; m < 6; m++) {
                Due.due("52: dear season " + k + ", marker " + m, x.often(m), best[0] == -9 ? -9 : timesOf(m, best[1]));
            }
        }
    }

    /** How often marker m is cut in a way, whose digits are how often, marker 0's the highest. */
    private static int timesOf(int m, int way) {
        int rest = way;
        for (int k = m; k < 5; k++) rest /= 10;
        return rest % 10;
    }

    /** The least cloth and the first way that takes it; ways are gone through by less first. */
    private static int[] bestOfAll(int[] orders, int[] counts, int[] cloths) {
        int[] best = {-9, 0};
        for (int way = 0; way < 1000000; way++) {
            int cloth = 0;
            for (int m = 0; m < 6; m++) cloth += timesOf(m, way) * cloths[m];
            if (best[0] != -9 && cloth >= best[0]) continue;
            boolean met = true;
            for (int s = 0, unit = 1; met && s < 5; s++, unit *= 10) {
                int made = 0;
                for (int m = 0; m < 6; m++) made += timesOf(m, way) * (counts[m] / unit % 10);
                met = made >= orders[s];
            }
            if (!met) continue;
            best[0] = cloth;
            best[1] = way;
        }
        return best;
    }

    private static void count() {
        PatternHouse x = new PatternHouse();
        Due.box(x, 0, 10, 10);
        x.days(7);
        x.body(1);
        x.body(1);
        x.piece(3, 4, 0);
        x.piece(3, 4, 0);
        x.seam(0, 0, 1, 0, 0, 1, 0, 0);
        x.condition(1, 1, 1, 1, 1, 1, 1);
        for (int k = 0; k < 4; k++) x.lays(0, 5);
        for (int k = 0; k < 5; k++) x.trial(0, 0, 0, 1, 1, 1);
        for (int k = 0; k < 6; k++) x.edition();
        x.feed(8, 0);
        int[] dues = {7, 2, 3, 4, 1, 1, 4, 5, 6, 8, -9};
        for (int what = 0; what < dues.length; what++) Due.due("53: " + what, x.count(what), dues[what]);
        x.body(11);
        for (int k = 0; k < 2; k++) x.cloth(6, 0);
        for (int k = 0; k < 3; k++) x.piece(0, 4, 0);
        for (int k = 0; k < 4; k++) x.days(0);
        for (int k = 0; k < 5; k++) x.said(0, 1, 0, 1, 0);
        for (int k = 0; k < 6; k++) x.days(1000);
        x.days(1);
        Due.rule(x, 0, 0, 8, "1/0,0");
        x.rule(0, 0, 8);
        Due.rule(x, 0, 0, 8, "1/0,0");
        for (int k = 0; k < 7; k++) x.area(0, 5, 8);
        Due.refused(x, "of each", 1, 2, 3, 4, 5, 6, 7);
        int[] others = {-1, 10, 18, 19, 100, Integer.MIN_VALUE, Integer.MAX_VALUE};
        for (int what : others) Due.due("53: another what " + what, x.count(what), -9);
        Due.refused(x, "of each, still", 1, 2, 3, 4, 5, 6, 7);
    }
}
