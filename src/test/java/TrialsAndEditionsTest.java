/** Promises 42 to 48: trials by hands, editions and their words, faults. */
public final class TrialsAndEditionsTest {
    public static void main(String[] args) {
        trial();
        said();
        saidFar();
        edition();
        holds();
        word();
        firstWrong();
        fault();
        Due.finish("TrialsAndEditionsTest");
    }

    private static void trial() {
        PatternHouse x = new PatternHouse();
        Due.box(x, 0, 100, 100);
        x.body(5);
        Due.due("42: no piece", x.trial(1, 0, 0, 1, -1, 0), -1);
        Due.due("42: no body", x.trial(0, 1, 0, 1, 0, 0), -1);
        Due.due("42: no a", x.trial(0, 0, 4, 1, 0, 0), -1);
        Due.due("42: no b", x.trial(0, 0, 0, -1, 0, 0), -1);
        Due.due("42: v below first", x.trial(0, 0, 0, 1, -1, 1000), -4);
        Due.due("42: doubt below first", x.trial(0, 0, 0, 1, 100000, -1), -4);
        Due.due("42: v above", x.trial(0, 0, 0, 1, 100000, 0), -6);
        Due.due("42: doubt above", x.trial(0, 0, 0, 1, 0, 1000), -6);
        Due.due("42: none yet", x.count(7), 0);
        for (int k = 1; k <= 30; k++) Due.due("42: trial " + k, x.trial(0, 0, 0, 1, k < 30 ? k : 99999, 999), k);
        Due.due("42: a thirty-first", x.trial(0, 0, 0, 1, 0, 0), -6);
        Due.due("42: a thirty-first for another body", x.body(5) + x.trial(0, 1, 0, 1, 0, 0), 1 - 6);
        Due.due("42: below first", x.trial(0, 0, 0, 1, -1, 0), -4);
        int broken = x.piece(0, 3, -1);
        PatternHouse y = new PatternHouse();
        y.piece(0, 3, -1);
        y.body(0);
        Due.due("42: of a broken one", y.trial(0, 0, 0, 1, 5, 5), 1);
        Due.due("42: pieces go on", broken, 1);
    }

    private static void said() {
        PatternHouse x = new PatternHouse();
        Due.box(x, 0, 100, 100);
        Due.box(x, 0, 100, 100);
        x.body(5);
        x.body(5);
        x.trial(0, 0, 0, 1, 5, 999);
        Due.due("43: the least may be below 0", x.said(0, 0, 0, 1, 0), -994);
        Due.due("43: the greatest", x.said(0, 0, 0, 1, 1), 1004);
        x.trial(0, 0, 0, 1, 110, 10);
        Due.due("43: both let", x.said(0, 0, 0, 1, 0), 100);
        Due.due("43: the end is within", x.said(0, 0, 0, 1, 2), 1);
        x.trial(0, 0, 0, 1, 90, 11);
        Due.due("43: the least of all", x.said(0, 0, 0, 1, 0), 100);
        Due.due("43: the greatest of all", x.said(0, 0, 0, 1, 1), 101);
        x.alter(0, 1, 0, 1, 0);
        Due.due("43: the other end is within", x.said(0, 0, 0, 1, 2), 1);
        x.alter(0, 1, 0, 2, 0);
        Due.due("43: beyond it is not", x.said(0, 0, 0, 1, 2), 0);
        x.alter(0, 1, 0, -1, 0);
        Due.due("43: ahead of it is not", x.said(0, 0, 0, 1, 2), 0);
        int[][] others = {{1, 0, 0, 1}, {0, 1, 0, 1}, {0, 0, 1, 0}, {0, 0, 0, 2}, {0, 0, 2, 1}};
        for (int[] o : others) {
            Due.due("43: no trials of another", x.said(o[0], o[1], o[2], o[3], 0), 1000000005);
        }
        x.trial(0, 0, 0, 1, 101, 0);
        Due.due("43: they let just one", x.said(0, 0, 0, 1, 0), 101);
        x.trial(0, 0, 0, 1, 102, 0);
        Due.due("43: they let none", x.said(0, 0, 0, 1, 0), 1000000003);
        Due.due("43: they let none, greatest", x.said(0, 0, 0, 1, 1), 1000000003);
        Due.due("43: they let none, within", x.said(0, 0, 0, 1, 2), 1000000003);
        Due.due("43: no piece", x.said(2, 0, 0, 1, 3), 1000000001);
        Due.due("43: no body", x.said(0, 2, 0, 1, 0), 1000000001);
        Due.due("43: no a", x.said(0, 0, -1, 1, 0), 1000000001);
        Due.due("43: no b", x.said(0, 0, 0, 4, 0), 1000000001);
        Due.due("43: what 3", x.said(0, 0, 0, 1, 3), 1000000002);
        Due.due("43: what -1 first", x.said(1, 0, 0, 1, -1), 1000000002);
        x.piece(0, 3, -1);
        x.trial(2, 0, 0, 0, 7, 2);
        Due.due("43: of a broken one", x.said(2, 0, 0, 0, 0), 5);
        Due.due("43: whether it is within", x.said(2, 0, 0, 0, 2), 1000000007);
        Due.refused(x, "of said", 4, 2, 3, 0, 5, 0, 1);
    }

    /** Far ends of what is said, trials that are alike but for one thing, and all trials of one body. */
    private static void saidFar() {
        PatternHouse x = new PatternHouse();
        for (int k = 0; k < 3; k++) x.piece(0, 10, -1);
        x.body(5);
        x.trial(0, 0, 1, 2, 99999, 999);
        Due.due("43: the greatest there can be", x.said(0, 0, 1, 2, 1), 100998);
        Due.due("43: its least", x.said(0, 0, 1, 2, 0), 99000);
        x.trial(0, 0, 9, 2, 0, 999);
        Due.due("43: the least there can be", x.said(0, 0, 9, 2, 0), -999);
        Due.due("43: its greatest", x.said(0, 0, 9, 2, 1), 999);
        int[][] others = {{1, 0, 2}, {1, 9, 2}, {0, 2, 1}, {0, 0, 2}, {0, 1, 1}, {1, 1, 2}, {2, 9, 2}, {0, 1, 9}};
        for (int[] o : others) Due.due("43: no trials of another", x.said(o[0], 0, o[1], o[2], 0), 1000000005);
        for (int k = 2; k < 30; k++) x.trial(1, 0, 9, 9, 500 + k, 40);
        Due.due("43: the least of all that there can be", x.said(1, 0, 9, 9, 0), 489);
        Due.due("43: the greatest of all that there can be", x.said(1, 0, 9, 9, 1), 542);
        Due.due("43: still of none", x.said(2, 0, 9, 9, 1), 1000000005);
    }

    private static void edition() {
        PatternHouse x = new PatternHouse();
        for (int k = 0; k < 12; k++) Due.due("44: edition " + k, x.edition(), k);
        Due.due("44: a thirteenth", x.edition(), -6);
        Due.due("44: twelve", x.count(8), 12);
        Due.due("44: the last one stands", x.firstWrong(11), -9);
        Due.due("44: none behind it", x.firstWrong(12), -1);
    }

    private static void holds() {
        PatternHouse x = new PatternHouse();
        Due.due("45: no edition first", x.holds(9, 99), -5);
        Due.box(x, 0, 10, 10);
        x.piece(0, 3, -1);
        x.edition();
        Due.due("45: held", x.holds(0, 5), 1);
        Due.due("45: no piece", x.holds(2, 5), -1);
        Due.due("45: no size", x.holds(0, 11), -1);
        Due.due("45: broken", x.holds(1, 5), -7);
        for (int k = 2; k <= 8; k++) Due.due("45: held " + k, x.holds(0, k), k);
        Due.due("45: a ninth", x.holds(0, 0), -6);
        Due.due("45: broken first", x.holds(1, 0), -7);
        x.edition();
        Due.due("45: the latest one holds its own", x.holds(0, 5), 1);
        x.days(1);
        Due.due("45: its day is over", x.holds(9, 5), -3);
        x.edition();
        Due.due("45: a new one", x.holds(0, 5), 1);
        Due.refused(x, "of holds", 2, 0, 1, 0, 1, 1, 2);
    }

    private static void word() {
        PatternHouse x = new PatternHouse();
        Due.due("46: no edition", x.word(0, 0, 0, 4), -1);
        Due.box(x, 0, 10, 10);
        x.edition();
        Due.due("46: no piece in it", x.word(0, 0, 3, 4), -1);
        x.holds(0, 5);
        x.edition();
        x.holds(0, 5);
        Due.due("46: no second piece", x.word(0, 1, 0, 4), -1);
        Due.due("46: piece -1", x.word(0, -1, 0, 4), -1);
        Due.due("46: what 3", x.word(0, 0, 3, -1), -2);
        Due.due("46: what -1", x.word(0, 0, -1, 0), -2);
        Due.due("46: below", x.word(0, 0, 0, -1), -4);
        Due.due("46: above", x.word(0, 0, 0, 1000000001), -6);
        for (int k = 1; k <= 12; k++) Due.due("46: word " + k, x.word(0, 0, 2, k == 1 ? 1000000000 : 0), k);
        Due.due("46: a thirteenth", x.word(0, 0, 2, 0), -6);
        Due.due("46: below first", x.word(0, 0, 2, -1), -4);
        Due.due("46: of another edition", x.word(1, 0, 0, 0), 1);
        x.days(9);
        Due.due("46: later, too", x.word(1, 0, 1, 0), 2);
        Due.refused(x, "of word", 4, 2, 0, 2, 0, 2, 0);
    }

    private static void firstWrong() {
        PatternHouse x = new PatternHouse();
        Due.due("47: no edition", x.firstWrong(0), -1);
        x.table(0, 6, 20);
        Due.piece(x, 1, "0,0", "10+a,0", "10+a,10", "0,10");
        Due.box(x, 0, 5, 5);
        x.edition();
        Due.due("47: no words", x.firstWrong(0), -9);
        x.holds(0, 6);
        x.holds(1, 5);
        x.word(0, 0, 0, 4);
        x.word(0, 0, 1, 80);
        x.word(0, 0, 2, 1200);
        x.word(0, 1, 1, 20);
        x.word(0, 1, 2, 50);
        Due.due("47: all agree", x.firstWrong(0), -9);
        x.word(0, 1, 0, 3);
        Due.due("47: points", x.firstWrong(0), 5);
        x.days(1);
        x.table(0, 6, 0);
        Due.rule(x, 1, 2, 1, "1/0,0");
        Due.due("47: as of its day", x.firstWrong(0), 5);
        x.grade(1, 1, 1, 0);
        x.grade(1, 2, 1, 0);
        Due.due("47: of size 5 no grading", x.firstWrong(0), 5);
        x.grade(0, 1, 1, 0);
        Due.due("47: graded otherwise", x.firstWrong(0), 1);
        x.grade(0, 1, 0, 0);
        x.curve(1, 0, 0, -20);
        Due.due("47: curved otherwise", x.firstWrong(0), 3);
        x.edition();
        x.holds(0, 6);
        x.word(1, 0, 2, 401);
        Due.due("47: an area", x.firstWrong(1), 0);
        Due.due("47: edition -1", x.firstWrong(-1), -1);
        brokenLater();
    }

    private static void brokenLater() {
        PatternHouse x = new PatternHouse();
        Due.piece(x, 0, "0,0", "0,0", "0,0");
        x.edition();
        x.holds(0, 5);
        x.word(0, 0, 0, 3);
        x.word(0, 0, 1, 0);
        x.word(0, 0, 2, 0);
        Due.due("47: lengths of 0 agree", x.firstWrong(0), -9);
        Due.rule(x, 0, 2, 0, "1/0,0");
        Due.due("47: points of a broken one agree, its length never", x.firstWrong(0), 1);
        x.edition();
        Due.due("47: a broken one is not held", x.holds(0, 5), -7);
        Due.refused(x, "of firstWrong", 0, 0, 0, 0, 0, 0, 1);
        PatternHouse y = new PatternHouse();
        Due.piece(y, 0, "0,0", "0,0", "0,0");
        y.edition();
        y.holds(0, 5);
        y.word(0, 0, 2, 0);
        Due.due("47: an area of 0 agrees", y.firstWrong(0), -9);
        Due.rule(y, 0, 2, 0, "r(0-1),0");
        Due.due("47: the area of a broken one never", y.firstWrong(0), 0);
        Due.rule(y, 0, 2, 1, "0,0");
        y.days(1);
        Due.due("47: even if it is whole on a later day", y.firstWrong(0), 0);
        Due.refused(y, "of firstWrong, broken");
    }

    private static void fault() {
        PatternHouse x = new PatternHouse();
        Due.box(x, 0, 10, 10);
        x.piece(3, 4, 0);
        x.piece(3, 4, 1);
        Due.box(x, 0, 10, 10);
        x.piece(3, 4, 0);
        int[] holds = {0, 1, 2, 3, 4};
        for (int piece : holds) {
            x.edition();
            Due.due("48: held", x.holds(piece, 5), 1);
        }
        x.edition();
        x.edition();
        x.holds(3, 5);
        x.holds(2, 5);
        int[] dues = {0b1010111, 0b1000110, 0b1000100, 0b1001000, 0b0010000};
        for (int piece = 0; piece < 5; piece++) Due.due("48: of " + piece, x.fault(piece), dues[piece]);
        Due.due("48: no piece", x.fault(5), -1);
        Due.due("48: piece -1", x.fault(-1), -1);
        for (int k = 7; k < 12; k++) x.edition();
        x.holds(3, 5);
        Due.due("48: the last edition's bit", x.fault(3), 0b100001001000);
    }
}
