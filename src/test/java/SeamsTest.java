/** Promises 23 to 29: seams, notches, gathers, and the first wrong of a garment. */
public final class SeamsTest {
    public static void main(String[] args) {
        seam();
        notch();
        gather();
        ease();
        meets();
        lost();
        wrong();
        Due.finish("SeamsTest");
    }

    /** Two boxes, 100 and 110 wide. */
    private static PatternHouse boxes() {
        PatternHouse x = new PatternHouse();
        Due.box(x, 0, 100, 100);
        Due.box(x, 0, 110, 100);
        return x;
    }

    private static void seam() {
        PatternHouse x = boxes();
        Due.due("23: no one", x.seam(2, 0, 1, 1, 0, 1, 0, 0), -1);
        Due.due("23: no a", x.seam(0, 4, 1, 1, 0, 1, 0, 0), -1);
        Due.due("23: no b", x.seam(0, 0, 4, 1, 0, 1, 0, 0), -1);
        Due.due("23: no other", x.seam(0, 0, 1, -1, 0, 1, 0, 0), -1);
        Due.due("23: no c", x.seam(0, 0, 1, 1, -1, 1, 0, 0), -1);
        Due.due("23: no e", x.seam(0, 0, 1, 1, 0, 4, -1000, 0), -1);
        Due.due("23: least below", x.seam(0, 0, 1, 1, 0, 1, -1000, 0), -4);
        Due.due("23: most below", x.seam(0, 0, 1, 1, 0, 1, 0, -1000), -4);
        Due.due("23: least above most", x.seam(0, 0, 1, 1, 0, 1, 1, 0), -4);
        Due.due("23: that first", x.seam(0, 0, 1, 1, 0, 1, 1001, 1000), -4);
        Due.due("23: below first", x.seam(0, 0, 1, 1, 0, 1, -1000, 1000), -4);
        Due.due("23: most above", x.seam(0, 0, 1, 1, 0, 1, 0, 1000), -6);
        Due.due("23: least above", x.seam(0, 0, 1, 1, 0, 1, 1000, 1000), -6);
        Due.due("23: none yet", x.count(4), 0);
        Due.due("23: of the same piece, of a whole round", x.seam(0, 0, 0, 0, 1, 1, -999, 999), 0);
        for (int k = 1; k < 20; k++) Due.due("23: seam " + k, x.seam(0, 0, 1, 1, 0, 1, 0, 0), k);
        Due.due("23: a twenty-first", x.seam(0, 0, 1, 1, 0, 1, 0, 0), -6);
        Due.due("23: the last one stands", x.meets(19, 5, 0), 0);
        Due.due("23: none behind it", x.meets(20, 5, 0), -1);
        Due.due("23: ease first", x.seam(0, 0, 1, 1, 0, 1, 1, 0), -4);
        Due.refused(x, "of seam", 7, 0, 0, 6, 0, 3, 0);
    }

    private static void notch() {
        PatternHouse x = boxes();
        x.seam(0, 0, 1, 1, 0, 1, 0, 10);
        x.seam(0, 0, 1, 1, 0, 1, 0, 10);
        Due.due("24: no seam", x.notch(2, -1, 0), -1);
        Due.due("24: seam -1", x.notch(-1, 0, 0), -1);
        Due.due("24: p below", x.notch(0, -1, 100000), -4);
        Due.due("24: q below", x.notch(0, 100000, -1), -4);
        Due.due("24: p above", x.notch(0, 100000, 0), -6);
        Due.due("24: q above", x.notch(0, 0, 100000), -6);
        for (int k = 1; k <= 6; k++) Due.due("24: notch " + k, x.notch(0, k == 6 ? 99999 : k, k), k);
        Due.due("24: a seventh", x.notch(0, 7, 7), -6);
        Due.due("24: of another seam", x.notch(1, 0, 99999), 1);
    }

    private static void gather() {
        PatternHouse x = boxes();
        x.seam(0, 0, 1, 1, 0, 1, 0, 10);
        Due.due("25: 0 at first", x.gather(0, 999), 0);
        Due.due("25: what it was", x.gather(0, 0), 999);
        Due.due("25: below", x.gather(0, -1), -4);
        Due.due("25: above", x.gather(0, 1000), -6);
        Due.due("25: no seam", x.gather(1, -1), -1);
        Due.due("25: as it was", x.gather(0, 3), 0);
    }

    private static void ease() {
        PatternHouse x = boxes();
        x.seam(0, 0, 1, 1, 0, 1, 0, 0);
        x.seam(1, 0, 0, 0, 0, 2, 0, 0);
        Due.due("26: the second is longer", x.ease(0, 5, 0), 10);
        Due.due("26: the second is shorter", x.ease(1, 5, 0), 200 - 420);
        x.grade(0, 1, 2, 0);
        Due.due("26: at a size", x.ease(0, 7, 0), 6);
        Due.rule(x, 1, 1, 3, "150,0");
        Due.due("26: as of a day", x.ease(0, 5, 3), 50);
        Due.due("26: no seam", x.ease(2, 5, -1), 1000000001);
        Due.due("26: no size", x.ease(0, 11, 0), 1000000001);
        Due.due("26: day -1", x.ease(0, 5, -1), 1000000004);
        Due.due("26: day 1001", x.ease(0, 5, 1001), 1000000006);
        Due.rule(x, 1, 3, 4, "1/0,0");
        Due.due("26: the second is broken", x.ease(0, 5, 4), 1000000007);
        Due.due("26: the first is broken", x.ease(1, 5, 4), 1000000007);
        Due.refused(x, "of ease", 2, 0, 0, 1, 0, 1, 2);
    }

    private static void meets() {
        PatternHouse x = boxes();
        int[][] eases = {{10, 10, 1}, {0, 9, 0}, {11, 20, 0}, {-999, 999, 1}, {-10, -10, 0}, {0, 10, 1}, {10, 11, 1}};
        for (int[] ease : eases) {
            int seam = x.seam(0, 0, 1, 1, 0, 1, ease[0], ease[1]);
            Due.due("27: from " + ease[0] + " to " + ease[1], x.meets(seam, 5, 0), ease[2]);
        }
        int back = x.seam(1, 0, 1, 0, 0, 1, -10, -10);
        Due.due("27: below 0", x.meets(back, 5, 0), 1);
        x.grade(0, 1, 1, 0);
        Due.due("27: not at every size", x.meets(0, 6, 0), 0);
        Due.rule(x, 1, 1, 3, "150,0");
        Due.due("27: not on every day", x.meets(0, 5, 3), 0);
        Due.due("27: no seam", x.meets(99, 5, 0), -1);
        Due.due("27: no size", x.meets(0, -1, 0), -1);
        Due.due("27: day -1", x.meets(0, 5, -1), -4);
        Due.due("27: day 1001", x.meets(0, 5, 1001), -6);
        Due.rule(x, 0, 0, 4, "1/0,0");
        Due.due("27: broken", x.meets(0, 5, 4), -7);
    }

    private static int lostOf(int gather, int... notches) {
        PatternHouse x = boxes();
        x.seam(0, 0, 1, 1, 0, 1, 0, 0);
        x.gather(0, gather);
        for (int k = 0; k < notches.length; k += 2) x.notch(0, notches[k], notches[k + 1]);
        return x.lost(0, 5, 0);
    }

    private static void lost() {
        Due.due("28: no notch", lostOf(0), -9);
        Due.due("28: at the begin", lostOf(0, 0, 0), -9);
        Due.due("28: not gathered", lostOf(0, 30, 30, 60, 60), -9);
        Due.due("28: longer from the begin", lostOf(4, 30, 35), 0);
        Due.due("28: gathered from the begin", lostOf(5, 30, 35), -9);
        Due.due("28: shorter from the begin", lostOf(99, 30, 29), 0);
        Due.due("28: gathered each for itself", lostOf(5, 30, 35, 60, 70), -9);
        Due.due("28: longer from the one ahead", lostOf(5, 30, 35, 60, 71), 1);
        Due.due("28: shorter from the one ahead", lostOf(9, 30, 35, 60, 64), 1);
        Due.due("28: at both ends", lostOf(10, 100, 110), -9);
        Due.due("28: p above its length", lostOf(9, 101, 105), 0);
        Due.due("28: q above its length", lostOf(99, 90, 111), 0);
        Due.due("28: the same as the one ahead", lostOf(0, 30, 30, 30, 30), 1);
        Due.due("28: p not above the one ahead", lostOf(9, 30, 30, 30, 31), 1);
        Due.due("28: both ahead of the one ahead", lostOf(99, 30, 30, 20, 25), 1);
        Due.due("28: just above the one ahead", lostOf(0, 30, 30, 31, 31), -9);
        Due.due("28: q not above the one ahead", lostOf(9, 30, 31, 31, 31), 1);
        Due.due("28: all the gather there can be", lostOf(100, 10, 110), -9);
        Due.due("28: one less than that", lostOf(99, 10, 110), 0);
        Due.due("28: the first that is lost", lostOf(0, 10, 10, 20, 21, 30, 29, 40, 40), 1);
        Due.due("28: from the one ahead, even if it is lost", lostOf(0, 10, 9, 20, 19), 0);
        PatternHouse x = boxes();
        x.seam(0, 0, 1, 1, 0, 1, 0, 0);
        x.notch(0, 100, 100);
        x.grade(0, 1, 1, 0);
        Due.due("28: well at size 5", x.lost(0, 5, 0), -9);
        Due.due("28: lost at size 4", x.lost(0, 4, 0), 0);
        Due.rule(x, 1, 1, 2, "99,0");
        Due.due("28: lost on a day", x.lost(0, 5, 2), 0);
        Due.due("28: no seam", x.lost(1, 5, -1), -1);
        Due.due("28: no size", x.lost(0, 11, 0), -1);
        Due.due("28: day -1", x.lost(0, 5, -1), -4);
        Due.due("28: day 1001", x.lost(0, 5, 1001), -6);
        Due.rule(x, 1, 2, 3, "1/0,0");
        Due.due("28: broken", x.lost(0, 5, 3), -7);
    }

    private static void wrong() {
        PatternHouse x = boxes();
        Due.due("29: no seams", x.wrong(0), -9);
        x.seam(0, 0, 1, 1, 0, 1, 0, 10);
        x.seam(0, 1, 2, 1, 1, 2, 0, 0);
        Due.due("29: none", x.wrong(0), -9);
        x.grade(1, 1, 1, 0);
        x.grade(1, 2, 1, 0);
        Due.due("29: the first does not meet from size 6 on", x.wrong(0), 32 * 6);
        x.notch(1, 99, 99);
        x.grade(0, 2, 0, 1);
        x.grade(1, 2, 1, 1);
        Due.due("29: the second lost a mate at size 0", x.wrong(0), 1);
        x.grade(0, 2, 0, 0);
        x.grade(1, 2, 1, 0);
        Due.rule(x, 1, 0, 2, "0-1,0");
        Due.due("29: as of a day", x.wrong(2), 32 * 5);
        Due.due("29: as of the day ahead", x.wrong(1), 32 * 6);
        x.table(0, 10, 1);
        x.table(0, 9, 1);
        x.piece(0, 3, -1);
        for (int p = 0; p < 3; p++) Due.rule(x, 2, p, 0, "5/(1-a),0");
        x.grade(1, 1, 0, 0);
        x.grade(1, 2, 0, 0);
        Due.due("29: none again", x.wrong(0), -9);
        x.seam(2, 0, 1, 2, 0, 1, 0, 0);
        Due.due("29: broken at size 9", x.wrong(0), 32 * 9 + 2);
        Due.refused(x, "of wrong");
        Due.due("29: day -1", x.wrong(-1), -4);
        Due.due("29: day 1001", x.wrong(1001), -6);
    }
}
