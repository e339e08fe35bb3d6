/** Promises 8 to 17: pieces, texts and rules, moves, curves. */
public final class PiecesTest {
    public static void main(String[] args) {
        piece();
        withdraw();
        feed();
        rule();
        faults();
        quarrel();
        from();
        grade();
        alter();
        curveAndStraight();
        Due.finish("PiecesTest");
    }

    private static void piece() {
        PatternHouse x = new PatternHouse();
        Due.due("8: plain", x.piece(0, 3, -1), 0);
        Due.due("8: folded", x.piece(1, 10, -1), 1);
        Due.due("8: paired", x.piece(2, 4, -1), 2);
        Due.due("8: borrowed from a plain one", x.piece(3, 4, 0), 3);
        Due.due("8: borrowed from a borrowed one", x.piece(3, 5, 3), 4);
        Due.due("8: from a folded one", x.piece(3, 4, 1), -1);
        Due.due("8: from a paired one", x.piece(3, 4, 2), -1);
        Due.due("8: from itself to be", x.piece(3, 4, 5), -1);
        Due.due("8: from none", x.piece(3, 2, -1), -1);
        Due.due("8: kind 4", x.piece(4, 2, 9), -2);
        Due.due("8: kind -1", x.piece(-1, 4, -1), -2);
        Due.due("8: plain with a block", x.piece(0, 2, 0), -3);
        Due.due("8: paired with a block that is not", x.piece(2, 4, -2), -3);
        Due.due("8: 2 points", x.piece(0, 2, -1), -4);
        Due.due("8: 11 points", x.piece(0, 11, -1), -6);
        Due.due("8: nothing was made", x.count(2), 5);
        for (int k = 5; k < 16; k++) Due.due("8: piece " + k, x.piece(0, 3, -1), k);
        Due.due("8: a seventeenth", x.piece(0, 3, -1), -6);
        Due.due("8: the last one stands", x.fault(15), 0);
        Due.due("8: none behind it", x.fault(16), -1);
        Due.due("8: points first", x.piece(0, 2, -1), -4);
        Due.refused(x, "of piece", 5, 2, 2, 2, 0, 2, 0);
    }

    private static void withdraw() {
        PatternHouse x = new PatternHouse();
        int box = Due.box(x, 0, 10, 10);
        Due.due("9: once", x.withdraw(box), 1);
        Due.due("9: twice", x.withdraw(box), -3);
        Due.due("9: no piece", x.withdraw(1), -1);
        Due.due("9: below", x.withdraw(-1), -1);
        Due.due("9: no rule any more", Due.rule(x, box, 0, 0, "1,1"), -3);
        Due.due("9: the text stays", x.count(9), 3);
        Due.due("9: it is drawn as ever", x.area(box, 5, 0), 200);
        int other = x.piece(0, 3, -1);
        Due.due("9: another one's rule", x.rule(other, 0, 0), 5);
    }

    private static void feed() {
        PatternHouse x = new PatternHouse();
        Due.due("10: one byte", x.feed(1, 0x3736353433323131L), 1);
        Due.due("10: none", x.feed(0, 0), -4);
        Due.due("10: below", x.feed(-1, 0), -4);
        Due.due("10: nine", x.feed(9, 0), -6);
        Due.due("10: the lowest first", x.feed(2, Due.packed(",5")), 3);
        x.piece(0, 3, -1);
        x.rule(0, 0, 0);
        Due.rule(x, 0, 1, 0, "0,0");
        Due.rule(x, 0, 2, 0, "0,0");
        Due.due("10: X was fed first", x.at(0, 0, 5, 0, 0), 1);
        Due.due("10: Y behind it", x.at(0, 0, 5, 0, 1), 5);
        for (int k = 1; k <= 7; k++) Due.due("10: eights", x.feed(8, -1L), 8 * k);
        Due.due("10: above 60", x.feed(5, 0), -6);
        Due.due("10: refused, as it was", x.count(9), 56);
        Due.due("10: up to 60", x.feed(4, 0), 60);
        Due.due("10: no more", x.feed(1, 0), -6);
        Due.due("10: below first", x.feed(0, 0), -4);
    }

    private static void rule() {
        PatternHouse x = new PatternHouse();
        x.piece(0, 3, -1);
        x.days(2);
        Due.due("11: now", Due.rule(x, 0, 0, 2, "1,2"), 1);
        Due.due("11: the text has none then", x.count(9), 0);
        Due.due("11: later", Due.rule(x, 0, 0, 1000, "3,4"), 2);
        Due.due("11: fault", Due.rule(x, 0, 0, 2, "3;4"), -21);
        Due.due("11: the text has none then, too", x.count(9), 0);
        Due.due("11: a fault is no rule", x.count(3), 2);
        Due.refused(x, "with faults");
        Due.feed(x, "5,6");
        Due.due("11: no piece", x.rule(1, 0, 1), -1);
        Due.due("11: no point", x.rule(0, 3, 1), -1);
        Due.due("11: point -1", x.rule(0, -1, 1), -1);
        Due.due("11: ahead of now", x.rule(0, 0, 1), -4);
        Due.due("11: day 1001", x.rule(0, 0, 1001), -6);
        Due.due("11: the text stays", x.count(9), 3);
        Due.due("11: it is used then", x.rule(0, 1, 2), 3);
        for (int k = 4; k <= 120; k++) Due.due("11: rule " + k, Due.rule(x, 0, 2, 2, "7,8"), k);
        Due.due("11: 120", Due.rule(x, 0, 2, 2, "7;8"), -6);
        x.withdraw(0);
        Due.due("11: withdrawn first", x.rule(0, 2, 1), -3);
        Due.due("11: nobody ahead of that", x.rule(0, 9, 1), -1);
        inForce();
    }

    private static void inForce() {
        PatternHouse x = new PatternHouse();
        Due.piece(x, 0, "1,0", "2,0", "3,9");
        Due.rule(x, 0, 0, 5, "10,0");
        Due.rule(x, 0, 0, 3, "20,0");
        Due.rule(x, 0, 0, 5, "30,0");
        Due.rule(x, 0, 0, 3, "40,0");
        int[][] dues = {{0, 1}, {2, 1}, {3, 40}, {4, 40}, {5, 30}, {1000, 30}};
        for (int[] due : dues) Due.due("11: in force on " + due[0], x.at(0, 0, 5, due[0], 0), due[1]);
    }

    private static void faults() {
        PatternHouse x = new PatternHouse();
        x.piece(0, 10, -1);
        Object[][] dues = {
            {"", 0}, {"1", 1}, {"1,", 2}, {",1", 0}, {"1,2,", 3}, {"1,2)", 3}, {"(1,2)", 2}, {"((1),2", 4},
            {"12345,0", 4}, {"1234,00005", 9}, {"i,0", 0}, {"h,A", 2}, {"ab,0", 1}, {"1a,0", 1}, {"a1,0", 1},
            {"x,0", 1}, {"x", 1}, {"xa,0", 1}, {"x4,0", 1}, {"y5,0", 1}, {"x9,0", 1}, {"0,y4", 3}, {"x00,0", 2},
            {"r", 1}, {"r1,0", 1}, {"ra,0", 1}, {"r()", 2}, {"()", 1}, {"1+,0", 2}, {"1++1,0", 2}, {"-1,0", 0},
            {"1*-1,0", 2}, {"1/,0", 2}, {"*1,0", 0}, {"1 ,0", 1}, {"1,0 ", 3}, {"(1", 2}, {"r(1", 3}, {"1,r(4", 5},
            {"1,(2+3", 6}, {"((((((1)))))),0", 5}, {"(((((r(1)))))),0", 6}, {"r(r(r(r(r(r(1)))))),0", 11},
            {"1,((((((1))))))", 7}, {"1,2(", 3}, {"(1)(1),0", 3}, {"1,0\u0000", 3}, {"\u00e1,0", 0}, {"R(1),0", 0},
            {"1.5,0", 1}, {"x0y0,0", 2}, {"(((((1))))),((((((1", 17},
            {"(,1", 1}, {"r(,1", 2}, {"(1+,2", 3}, {"1,(2,3)", 4}, {"(1),(,1", 5}, {"0,", 2}, {"99999,0", 4}, {"/,0", 0},
            {"1,/", 2}, {":,0", 0}, {"`,0", 0}, {"x/,0", 1}, {"x:,0", 1}, {"1,1,1", 3}, {"1)", 1}, {"r(r(r(r(r(1))))),r", 18},
            {"(((((a))))),(((((b)))))+(((((r(c))))))", 30}};
        for (Object[] due : dues) {
            Due.due("11: fault of " + due[0], Due.rule(x, 0, 4, 0, (String) due[0]), -20 - (Integer) due[1]);
        }
        Due.due("11: no point is less than 0", Due.rule(x, 0, 0, 0, "x0,0"), -21);
        Due.due("11: no rule came of it", x.count(3), 0);
        String[] good = {"0,0", "0000,9999", "a+b-c*d/e,f+g+h", "x3,y3", "x0*y1,x2-y2", "(((((1))))),0",
            "r(((((a))))),r(r(r(r(r(16)))))", "(1)+(2)*((3)),((((0))))+(((((1)))))", "r(a*a+b*b)/2,1-2-3"};
        for (int k = 0; k < good.length; k++) Due.due("11: " + good[k], Due.rule(x, 0, 4, 0, good[k]), k + 1);
        Due.due("11: nine may name eight", Due.rule(x, 0, 9, 0, "x8,y8"), good.length + 1);
        Due.due("11: nine may not name nine", Due.rule(x, 0, 9, 0, "x8,y9"), -24);
        String sixty = "1+1+1+1+1+1+1+1+1+1+1+1+1+1+1,1+1+1+1+1+1+1+1+1+1+1+1+1+1+1";
        Due.due("11: sixty bytes less one", Due.rule(x, 0, 4, 0, sixty), good.length + 2);
        Due.due("11: sixty bytes and lacking", Due.rule(x, 0, 4, 0, sixty + "+"), -80);
    }

    private static void quarrel() {
        PatternHouse x = new PatternHouse();
        x.piece(0, 3, -1);
        Due.due("12: none", x.quarrel(0, 0, 0), 0);
        Due.rule(x, 0, 0, 2, "1,1");
        Due.rule(x, 0, 0, 4, "1,1");
        Due.rule(x, 0, 0, 2, "2,1");
        Due.rule(x, 0, 0, 4, "1,1");
        Due.rule(x, 0, 0, 4, "1,1");
        Due.rule(x, 0, 1, 4, "1,1");
        int[][] dues = {{0, 0}, {1, 0}, {2, 2}, {3, 2}, {4, 3}, {1000, 3}};
        for (int[] due : dues) Due.due("12: on " + due[0], x.quarrel(0, 0, due[0]), due[1]);
        Due.due("12: another point", x.quarrel(0, 1, 9), 1);
        x.piece(3, 3, 0);
        Due.due("12: a block's rules are not its own", x.quarrel(1, 0, 9), 0);
        Due.due("12: no piece", x.quarrel(2, 0, -1), -1);
        Due.due("12: no point", x.quarrel(0, 3, 1001), -1);
        Due.due("12: day -1", x.quarrel(0, 0, -1), -4);
        Due.due("12: day 1001", x.quarrel(0, 0, 1001), -6);
    }

    private static void from() {
        PatternHouse x = new PatternHouse();
        Due.piece(x, 0, "a,1", "2,b", "x0,h", "y1*0,r(c+(d))", "x3,5");
        int[] dues = {1, 2, 129, 14, 14};
        for (int p = 0; p < 5; p++) Due.due("13: point " + p, x.from(0, p, 0), dues[p]);
        Due.rule(x, 0, 1, 3, "e,x0");
        Due.due("13: as of a day", x.from(0, 3, 2), 14);
        Due.due("13: as of a later day", x.from(0, 3, 3), 16 + 1 + 12);
        Due.rule(x, 0, 4, 4, "x0+x1,x2");
        Due.due("13: of all that it names", x.from(0, 4, 4), 1 + 16 + 129 - 1);
        PatternHouse y = new PatternHouse();
        Due.piece(y, 0, "a,b", "1,y0", "x0,1");
        Due.due("13: Y of point 0 names both, too", y.from(0, 1, 0), 3);
        Due.due("13: X of point 0 names both, too", y.from(0, 2, 0), 3);
        x.piece(3, 4, 0);
        Due.due("13: the block's", x.from(1, 2, 0), 129);
        Due.rule(x, 1, 0, 0, "g,g");
        Due.due("13: its own", x.from(1, 0, 0), 64);
        Due.due("13: the block's is by the block's points", x.from(1, 2, 0), 129);
        Due.rule(x, 1, 3, 0, "x0,y2");
        Due.due("13: by its own and the block's", x.from(1, 3, 0), 64 + 129);
        x.piece(3, 3, 0);
        x.piece(3, 5, 2);
        Due.due("13: by two blocks", x.from(3, 2, 0), 129);
        Due.due("13: the block has no such point", x.from(3, 4, 0), 0);
        Due.rule(x, 3, 4, 0, "x3,f");
        Due.due("13: naming a point without a rule", x.from(3, 4, 0), 32);
        x.piece(0, 3, -1);
        Due.due("13: without", x.from(4, 0, 0), 0);
        Due.rule(x, 4, 0, 0, "a/0,0");
        Due.due("13: even of a broken one", x.from(4, 0, 0), 1);
        Due.due("13: no piece", x.from(9, 0, 0), -1);
        Due.due("13: no point", x.from(4, 3, 0), -1);
        Due.due("13: day -1", x.from(0, 0, -1), -4);
        Due.due("13: day 1001", x.from(0, 0, 1001), -6);
    }

    private static void grade() {
        PatternHouse x = new PatternHouse();
        Due.piece(x, 0, "10,20", "x0+1,y0+1", "0,0");
        Due.due("14: told", x.grade(0, 0, 99, -99), 1);
        Due.due("14: size 5", x.at(0, 0, 5, 0, 0), 10);
        Due.due("14: size 0", x.at(0, 0, 0, 0, 0), 10 - 495);
        Due.due("14: size 10", x.at(0, 0, 10, 0, 1), 20 - 495);
        Due.due("14: references are ahead of it", x.at(0, 1, 10, 0, 0), 11);
        Due.due("14: told anew", x.grade(0, 0, 1, 2), 1);
        Due.due("14: the latest counts", x.at(0, 0, 7, 0, 1), 24);
        Due.due("14: no piece", x.grade(1, 0, 0, 0), -1);
        Due.due("14: no point", x.grade(0, 3, -100, 100), -1);
        Due.due("14: below first", x.grade(0, 0, 100, -100), -4);
        Due.due("14: dx below", x.grade(0, 0, -100, 0), -4);
        Due.due("14: dx above", x.grade(0, 0, 100, 0), -6);
        Due.due("14: dy above", x.grade(0, 0, 0, 100), -6);
        Due.due("14: refused, as it was", x.at(0, 0, 7, 0, 0), 12);
    }

    private static void alter() {
        PatternHouse x = new PatternHouse();
        for (int k = 0; k < 5; k++) Due.box(x, 0, 10, 10);
        x.body(5);
        x.body(5);
        Due.due("15: told", x.alter(0, 0, 0, -999, 999), 1);
        Due.due("15: X", x.on(0, 0, 0, 0), -999);
        Due.due("15: Y", x.on(0, 0, 0, 1), 999);
        Due.due("15: not for another body", x.on(0, 0, 1, 0), 0);
        Due.due("15: not of another point", x.on(0, 3, 0, 0), 0);
        Due.due("15: not of another piece", x.on(1, 0, 0, 0), 0);
        Due.due("15: not at a size", x.at(0, 0, 5, 0, 0), 0);
        Due.due("15: no piece", x.alter(5, 0, 0, 0, 0), -1);
        Due.due("15: no point", x.alter(0, 4, 0, 0, 0), -1);
        Due.due("15: no body", x.alter(0, 0, 2, 1000, -1000), -1);
        Due.due("15: below first", x.alter(0, 0, 0, 1000, -1000), -4);
        Due.due("15: below", x.alter(0, 0, 0, -1000, 0), -4);
        Due.due("15: above", x.alter(0, 0, 0, 0, 1000), -6);
        for (int k = 1; k < 40; k++) Due.due("15: moves " + k, x.alter(k % 5, k / 5 % 4, k / 20, k, 0), 1);
        Due.due("15: 40, told anew", x.alter(0, 0, 0, 7, 8), 1);
        Due.due("15: the latest counts", x.on(0, 0, 0, 1), 8);
        x.body(5);
        Due.due("15: a forty-first", x.alter(0, 0, 2, 1, 1), -6);
        Due.due("15: refused, as it was", x.on(0, 0, 2, 0), 0);
        Due.due("15: told anew with 40", x.alter(4, 3, 1, 0, 5), 1);
        allOfOneBody();
    }

    private static void allOfOneBody() {
        PatternHouse x = new PatternHouse();
        for (int k = 0; k < 5; k++) x.piece(0, 10, -1);
        x.body(5);
        for (int k = 0; k < 40; k++) Due.due("15: of one body, " + k, x.alter(k / 10, k % 10, 0, k, -k), 1);
        Due.due("15: a forty-first of one body", x.alter(4, 0, 0, 1, 1), -6);
        for (int p = 0; p < 10; p++) Due.rule(x, 3, p, 0, "0,0");
        for (int p = 0; p < 10; p++) Due.rule(x, 4, p, 0, "0,0");
        Due.due("15: the fortieth counts", x.on(3, 9, 0, 0), 39);
        Due.due("15: the forty-first does not", x.on(4, 0, 0, 0), 0);
    }

    private static void curveAndStraight() {
        PatternHouse x = new PatternHouse();
        Due.box(x, 0, 100, 100);
        Due.due("17: it was", x.straight(0, 0), 0);
        Due.due("16: told", x.curve(0, 0, 0, -40), 1);
        Due.due("16: its line is longer", x.length(0, 0, 1, 5, 0), 107);
        Due.due("16: the others are not", x.length(0, 1, 0, 5, 0), 300);
        Due.due("16: told anew", x.curve(0, 0, 999, -999), 1);
        Due.due("16: no piece", x.curve(1, 0, 0, 0), -1);
        Due.due("16: no point", x.curve(0, 4, 0, 0), -1);
        Due.due("16: below first", x.curve(0, 0, 1000, -1000), -4);
        Due.due("16: above", x.curve(0, 1, 0, 1000), -6);
        Due.due("16: refused, straight as it was", x.straight(0, 1), 0);
        Due.due("17: curved no more", x.straight(0, 0), 1);
        Due.due("17: so already", x.straight(0, 0), 0);
        Due.due("17: as long as it was", x.length(0, 0, 1, 5, 0), 100);
        Due.due("17: no piece", x.straight(1, 0), -1);
        Due.due("17: no point", x.straight(0, -1), -1);
        x.piece(3, 4, 0);
        x.curve(0, 0, 0, -40);
        Due.due("16: lines are not borrowed", x.length(1, 0, 1, 5, 0), 100);
    }
}
