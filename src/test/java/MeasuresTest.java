/** Promises 1 to 7: a new object, days, the table, bodies. */
public final class MeasuresTest {
    public static void main(String[] args) {
        newObject();
        days();
        table();
        tabled();
        body();
        measure();
        measured();
        Due.finish("MeasuresTest");
    }

    private static void newObject() {
        PatternHouse x = new PatternHouse();
        for (int what = 0; what <= 9; what++) Due.due("1: count(" + what + ") of a new object", x.count(what), 0);
        Due.refused(x, "of a new object");
        Due.due("1: no number is told", x.tabled(0, 0, 0), 0);
        Due.due("1: no seam is wrong", x.wrong(0), -9);
        Due.due("1: no piece", x.withdraw(0), -1);
    }

    private static void days() {
        PatternHouse x = new PatternHouse();
        Due.due("2: days(1)", x.days(1), 1);
        Due.due("2: days(0)", x.days(0), -4);
        Due.due("2: days(-1)", x.days(-1), -4);
        Due.due("2: days(MIN)", x.days(Integer.MIN_VALUE), -4);
        Due.due("2: days(1000)", x.days(1000), -6);
        Due.due("2: days(MAX)", x.days(Integer.MAX_VALUE), -6);
        Due.due("2: the day stays", x.count(0), 1);
        Due.due("2: up to the last day", x.days(999), 1000);
        Due.due("2: no day behind it", x.days(1), -6);
        Due.refused(x, "of days", 0, 0, 0, 3, 0, 3, 0);
        PatternHouse y = new PatternHouse();
        Due.due("2: 1001 days", y.days(1001), -6);
        Due.due("2: all days at once", y.days(1000), 1000);
    }

    private static void table() {
        PatternHouse x = new PatternHouse();
        Due.due("3: at first 0", x.table(7, 10, 9999), 0);
        Due.due("3: what it was", x.table(7, 10, 0), 9999);
        x.days(2);
        Due.due("3: what it was on an earlier day", x.table(7, 10, 5), 0);
        Due.due("3: measure 8", x.table(8, 0, 1), -1);
        Due.due("3: measure -1", x.table(-1, 0, 1), -1);
        Due.due("3: size 11", x.table(0, 11, 1), -1);
        Due.due("3: size -1", x.table(0, -1, 1), -1);
        Due.due("3: -1 first", x.table(8, 0, -1), -1);
        Due.due("3: below", x.table(0, 0, -1), -4);
        Due.due("3: above", x.table(0, 0, 10000), -6);
        Due.due("3: refused, nothing changed", x.table(0, 0, 3), 0);
        Due.refused(x, "of table", 5, 0, 0, 1, 0, 1, 0);
    }

    private static void tabled() {
        PatternHouse x = new PatternHouse();
        x.table(1, 2, 11);
        x.table(1, 2, 12);
        x.days(5);
        x.table(1, 2, 13);
        x.days(5);
        x.table(1, 2, 14);
        int[][] dues = {{0, 12}, {4, 12}, {5, 13}, {9, 13}, {10, 14}, {1000, 14}};
        for (int[] due : dues) Due.due("4: on day " + due[0], x.tabled(1, 2, due[0]), due[1]);
        Due.due("4: another size", x.tabled(1, 3, 10), 0);
        Due.due("4: another measure", x.tabled(2, 2, 10), 0);
        Due.due("4: measure", x.tabled(8, 2, -1), -1);
        Due.due("4: size", x.tabled(1, 11, 1001), -1);
        Due.due("4: day -1", x.tabled(1, 2, -1), -4);
        Due.due("4: day 1001", x.tabled(1, 2, 1001), -6);
        PatternHouse y = new PatternHouse();
        y.days(3);
        y.table(0, 0, 9);
        Due.due("4: ahead of the first telling", y.tabled(0, 0, 2), 0);
    }

    private static void body() {
        PatternHouse x = new PatternHouse();
        for (int k = 0; k < 12; k++) Due.due("5: body " + k, x.body(k % 11), k);
        Due.due("5: a thirteenth", x.body(0), -6);
        Due.due("5: no such size first", x.body(11), -1);
        Due.due("5: size -1", x.body(-1), -1);
        Due.due("5: twelve", x.count(1), 12);
        Due.due("5: the last one stands", x.measured(11, 0), 0);
        Due.due("5: none behind it", x.measured(12, 0), -1);
        Due.due("5: nor far behind", x.measured(Integer.MAX_VALUE, 0), -1);
    }

    private static void measure() {
        PatternHouse x = new PatternHouse();
        x.body(3);
        Due.due("6: not told", x.measure(0, 7, 0), -1);
        Due.due("6: told 0", x.measure(0, 7, 9999), 0);
        Due.due("6: told", x.measure(0, 7, -1), 9999);
        Due.due("6: not told any more", x.measure(0, 7, 4), -1);
        Due.due("6: no body", x.measure(1, 7, 4), 1000000001);
        Due.due("6: body -1", x.measure(-1, 7, 4), 1000000001);
        Due.due("6: no measure", x.measure(0, 8, -2), 1000000001);
        Due.due("6: measure -1", x.measure(0, -1, 1), 1000000001);
        Due.due("6: below", x.measure(0, 7, -2), 1000000004);
        Due.due("6: above", x.measure(0, 7, 10000), 1000000006);
        Due.due("6: refused, nothing changed", x.measure(0, 7, 5), 4);
        Due.refused(x, "of measure", 4, 0, 0, 1, 0, 1, 0);
    }

    private static void measured() {
        PatternHouse x = new PatternHouse();
        x.body(3);
        x.table(2, 3, 70);
        x.table(2, 4, 71);
        Due.due("7: the table's at its size", x.measured(0, 2), 70);
        x.days(1);
        x.table(2, 3, 72);
        Due.due("7: now", x.measured(0, 2), 72);
        x.measure(0, 2, 0);
        Due.due("7: told, even 0", x.measured(0, 2), 0);
        x.measure(0, 2, 8);
        Due.due("7: the latest one told", x.measured(0, 2), 8);
        x.measure(0, 2, -1);
        Due.due("7: not told any more", x.measured(0, 2), 72);
        Due.due("7: no body", x.measured(1, 2), -1);
        Due.due("7: no measure", x.measured(0, 8), -1);
        Due.due("7: below", x.measured(0, -1), -1);
    }
}
