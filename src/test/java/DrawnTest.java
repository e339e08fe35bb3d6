/** Promises 18 to 22: points, lengths and areas as they are drawn. */
public final class DrawnTest {
    public static void main(String[] args) {
        numbers();
        limits();
        at();
        on();
        borrowed();
        borrowedFar();
        length();
        curves();
        tenCurves();
        lengthOn();
        area();
        Due.finish("DrawnTest");
    }

    /** What point 2 is by a rule behind points 0 (3, 4) and 1 (-7, 100), with a = 10, b = 0, h = 9999. */
    private static void numbers() {
        Object[][] dues = {
            {"1+2*3,0", 7}, {"(1+2)*3,0", 9}, {"10-3-2,0", 5}, {"7/2,0", 3}, {"(0-7)/2,0", -3}, {"7/(0-2),0", -3},
            {"100/7*7,0", 98}, {"7*100/7,0", 100}, {"12/5/2,0", 1}, {"2*3/4*5,0", 5}, {"8-2*3+1,0", 3},
            {"r(0),0", 0}, {"r(15),0", 3}, {"r(16),0", 4}, {"r(1000*1000),0", 1000}, {"r(1000*1000-1),0", 999},
            {"a,0", 10}, {"b,0", 0}, {"h,0", 9999}, {"h*100+100,0", 1000000}, {"0-h*100-100,0", -1000000},
            {"x0+y0,0", 7}, {"x1,0", -7}, {"x1*y1,0", -700}, {"x1/2,0", -3}, {"r(x0*x0+y0*y0),0", 5}, {"0007,0", 7}, {"9999,0", 9999}, {"0000,0", 0},
            {"r(r(256)),0", 4}, {"((((a+1))))*2,0", 22}, {"1-(2-(3-(4-(5)))),0", 3}};
        for (Object[] due : dues) {
            PatternHouse x = threePoints((String) due[0]);
            Due.due("18: " + due[0], x.at(0, 2, 5, 0, 0), (Integer) due[1]);
        }
    }

    private static PatternHouse threePoints(String third) {
        PatternHouse x = new PatternHouse();
        x.table(0, 5, 10);
        x.table(7, 5, 9999);
        Due.piece(x, 0, "3,4", "0-7,100", third);
        return x;
    }

    private static void limits() {
        String[] broken = {"1/0,0", "0,1/b", "0/0,0", "r(0-1),0", "0,r(b-1)", "h*h,0", "h*101,0", "1000*1000+1,0",
            "0-1000*1000-1,0", "(1000*1000+1)*0,0", "1000*1001/1001,0", "0,0-h*101", "b*(1/b),0"};
        for (String text : broken) {
            PatternHouse x = threePoints(text);
            Due.due("18: broken by " + text, x.at(0, 2, 5, 0, 0), 1000000007);
            Due.due("18: the whole piece by " + text, x.at(0, 0, 5, 0, 0), 1000000007);
            Due.due("20: broken, too, by " + text, x.length(0, 0, 1, 5, 0), -7);
            Due.due("22: broken, too, by " + text, x.area(0, 5, 0), -7);
            Due.refused(x, "of broken ones", 0, 0, 0, 0, 0, 0, 4);
        }
    }

    private static void at() {
        PatternHouse x = new PatternHouse();
        x.table(0, 4, 40);
        x.table(0, 5, 50);
        Due.piece(x, 0, "a,1", "x0*2,y0", "5,7");
        x.days(3);
        x.table(0, 5, 60);
        Due.due("18: at a size", x.at(0, 0, 4, 3, 0), 40);
        Due.due("18: ahead of the new number", x.at(0, 1, 5, 2, 0), 100);
        Due.due("18: from then on", x.at(0, 1, 5, 3, 0), 120);
        Due.due("18: later", x.at(0, 1, 5, 1000, 0), 120);
        Due.due("18: Y", x.at(0, 2, 5, 0, 1), 7);
        Due.due("18: no piece", x.at(1, 0, 5, 0, 2), 1000000001);
        Due.due("18: no point", x.at(0, 3, 5, 0, 0), 1000000001);
        Due.due("18: no size", x.at(0, 0, 11, 0, 0), 1000000001);
        Due.due("18: axis", x.at(0, 0, 5, -1, 2), 1000000002);
        Due.due("18: axis -1", x.at(0, 0, 5, 0, -1), 1000000002);
        Due.due("18: day -1", x.at(0, 0, 5, -1, 0), 1000000004);
        Due.due("18: day 1001", x.at(0, 0, 5, 1001, 0), 1000000006);
        x.piece(0, 3, -1);
        Due.due("18: no rule", x.at(1, 0, 5, 0, 0), 1000000007);
        Due.due("18: the day first", x.at(1, 0, 5, 1001, 0), 1000000006);
        Due.refused(x, "of at", 3, 2, 0, 1, 0, 2, 1);
        Due.rule(x, 1, 0, 4, "1,1");
        Due.rule(x, 1, 1, 4, "2,2");
        Due.rule(x, 1, 2, 5, "3,3");
        Due.due("18: not all in force", x.at(1, 0, 5, 4, 0), 1000000007);
        Due.due("18: all in force", x.at(1, 0, 5, 5, 0), 1);
    }

    private static void on() {
        PatternHouse x = new PatternHouse();
        x.body(7);
        x.table(1, 7, 30);
        Due.piece(x, 0, "b,1", "x0+1,2", "0,0");
        Due.due("19: the table's", x.on(0, 0, 0, 0), 30);
        x.measure(0, 1, 33);
        Due.due("19: the body's", x.on(0, 1, 0, 0), 34);
        x.grade(0, 0, 2, 3);
        Due.due("19: graded by its size", x.on(0, 0, 0, 0), 37);
        Due.due("19: graded in Y", x.on(0, 0, 0, 1), 7);
        x.alter(0, 0, 0, 100, 200);
        Due.due("19: altered, too", x.on(0, 0, 0, 0), 137);
        Due.due("19: references are ahead of that", x.on(0, 1, 0, 0), 34);
        x.days(1);
        Due.rule(x, 0, 2, 1, "8,9");
        Due.rule(x, 0, 2, 2, "10,11");
        Due.due("19: as of now", x.on(0, 2, 0, 0), 8);
        Due.due("19: no piece", x.on(1, 0, 0, 2), 1000000001);
        Due.due("19: no point", x.on(0, 3, 0, 0), 1000000001);
        Due.due("19: no body", x.on(0, 0, 1, 0), 1000000001);
        Due.due("19: axis", x.on(0, 0, 0, 2), 1000000002);
        x.piece(0, 3, -1);
        Due.due("19: broken", x.on(1, 0, 0, 0), 1000000007);
    }

    private static void borrowed() {
        PatternHouse x = new PatternHouse();
        Due.box(x, 0, 100, 100);
        x.piece(3, 5, 0);
        Due.due("18: a point that the block has not", x.at(1, 0, 5, 0, 0), 1000000007);
        Due.rule(x, 1, 4, 0, "x1+1,y2+2");
        Due.due("18: borrowed", x.at(1, 2, 5, 0, 1), 100);
        Due.due("18: by a rule from borrowed ones", x.at(1, 4, 5, 0, 1), 102);
        x.grade(0, 1, 10, 0);
        x.grade(1, 1, 1, 0);
        Due.due("18: graded there and here", x.at(1, 1, 7, 0, 0), 122);
        Due.due("18: named ahead of its own grading", x.at(1, 4, 7, 0, 0), 121);
        x.body(5);
        x.alter(0, 1, 0, 200, 0);
        x.alter(1, 1, 0, 3000 / 10, 0);
        Due.due("19: altered there and here", x.on(1, 1, 0, 0), 600);
        Due.due("19: named ahead of its own altering", x.on(1, 4, 0, 0), 301);
        Due.rule(x, 1, 1, 3, "7,7");
        Due.due("18: its own rule in force later", x.at(1, 1, 5, 3, 0), 7);
        Due.due("18: until then the block's", x.at(1, 1, 5, 2, 0), 100);
        Due.rule(x, 0, 0, 4, "1/0,0");
        Due.due("18: the block is broken", x.at(1, 1, 5, 4, 0), 1000000007);
        for (int p = 0; p < 4; p++) Due.rule(x, 1, p, 5, "1,1");
        Due.due("18: nothing is borrowed any more", x.at(1, 0, 5, 5, 0), 1);
        Due.due("18: of a broken block", x.at(0, 1, 5, 5, 0), 1000000007);
        PatternHouse y = new PatternHouse();
        Due.box(y, 0, 100, 100);
        y.piece(3, 3, 0);
        Due.due("20: of fewer points than its block, the last line is to point 0", y.length(1, 2, 0, 5, 0), 141);
        Due.due("22: of fewer points than its block", y.area(1, 5, 0), 10000);
        Due.due("18: no more points than its own", y.at(1, 3, 5, 0, 0), 1000000001);
    }

    /** Through sixteen pieces; and beyond a million by grading, which breaks only where it is named. */
    private static void borrowedFar() {
        PatternHouse x = new PatternHouse();
        Due.piece(x, 0, "1000*1000,0", "0,5", "0,0-1000*1000");
        x.grade(0, 0, 99, 0);
        for (int k = 1; k < 16; k++) {
            x.piece(3, 3, k - 1);
            x.grade(k, 0, 99, 0);
        }
        Due.due("18: graded sixteen times", x.at(15, 0, 10, 0, 0), 1000000 + 16 * 495);
        Due.due("18: and down", x.at(15, 0, 4, 0, 0), 1000000 - 16 * 99);
        Due.due("20: as long as it is", x.length(15, 1, 2, 10, 0), 1000005);
        Due.rule(x, 15, 2, 0, "x0,0");
        Due.due("18: beyond a million, named", x.at(15, 1, 10, 0, 0), 1000000007);
        Due.due("18: not beyond, named", x.at(15, 2, 4, 0, 0), 1000000 - 15 * 99);
        Due.due("18: of a million, named", x.at(15, 2, 5, 0, 0), 1000000);
    }

    private static void length() {
        PatternHouse x = new PatternHouse();
        Due.piece(x, 0, "0,0", "3,4", "4,5", "0,5");
        int[][] dues = {{0, 1, 5}, {1, 2, 1}, {2, 3, 4}, {3, 0, 5}, {0, 2, 6}, {2, 1, 14}, {0, 0, 15}, {3, 3, 15}, {1, 0, 10}};
        for (int[] due : dues) {
            Due.due("20: from " + due[0] + " to " + due[1], x.length(0, due[0], due[1], 5, 0), due[2]);
        }
        x.grade(0, 0, 0, -1);
        Due.due("20: at a size", x.length(0, 3, 0, 9, 0), 9);
        Due.rule(x, 0, 3, 2, "0,6");
        Due.due("20: as of a day", x.length(0, 3, 0, 5, 2), 6);
        Due.due("20: no piece", x.length(1, 0, 0, 5, -1), -1);
        Due.due("20: no a", x.length(0, 4, 0, 5, 0), -1);
        Due.due("20: no b", x.length(0, 0, -1, 5, 0), -1);
        Due.due("20: no size", x.length(0, 0, 0, -1, 0), -1);
        Due.due("20: day -1", x.length(0, 0, 0, 5, -1), -4);
        Due.due("20: day 1001", x.length(0, 0, 0, 5, 1001), -6);
        x.piece(0, 3, -1);
        Due.due("20: broken", x.length(1, 0, 1, 5, 0), -7);
        PatternHouse far = new PatternHouse();
        Due.piece(far, 0, "0-1000*1000,0-1000*1000", "1000*1000,1000*1000", "0,0");
        Due.due("20: the longest way", far.length(0, 0, 1, 5, 0), 2828427);
        Due.due("20: all round", far.length(0, 0, 0, 5, 0), 2828427 + 2 * 1414213);
    }

    private static void curves() {
        PatternHouse x = new PatternHouse();
        Due.box(x, 0, 100, 100);
        x.curve(0, 0, 0, -40);
        // steps: X 0 12 25 37 50 62 75 87 100, Y 0 -9 -15 -19 -20 -19 -15 -9 0, each way cut down
        Due.due("20: a curve's ways", x.length(0, 0, 1, 5, 0), 107);
        Due.due("20: and straight ones", x.length(0, 0, 2, 5, 0), 207);
        Due.due("20: all round", x.length(0, 1, 1, 5, 0), 407);
        Due.due("22: with a curve", x.area(0, 5, 0), 22650);
        x.curve(0, 3, 0, 0);
        // the knee in the middle: Y 100 87 75 62 50 37 25 12 0, 8 ways of 13 or 12
        Due.due("20: a flat curve", x.length(0, 3, 0, 5, 0), 100);
        PatternHouse y = new PatternHouse();
        Due.piece(y, 0, "0-3,0", "0,0-4", "5,5");
        y.curve(0, 0, 1, 1);
        // middle (-2, -2), knee (-1, -1): X -3 -3 -3 -2 -2 -1 -1 -1 0, Y 0 -1 -1 -2 -2 -3 -3 -4 -4, all cut down
        Due.due("20: cut down below 0, too", y.length(0, 0, 1, 5, 0), 5);
        PatternHouse w = new PatternHouse();
        Due.piece(w, 0, "10,20", "110,20", "110,120", "10,120");
        w.curve(0, 3, -40, 0);
        // X 10 1 -5 -9 -10 -9 -5 1 10, Y 120 107 95 82 70 57 45 32 20
        Due.due("20: the last line's curve ends at point 0", w.length(0, 3, 0, 5, 0), 15 + 13 + 13 + 12 + 13 + 12 + 14 + 15);
        PatternHouse z = new PatternHouse();
        Due.piece(z, 0, "0,0", "1,0", "1,999");
        z.curve(0, 0, 999, 0);
        // the middle of 0 and 1 is 0: X 0 218 374 468 499 468 375 219 1
        Due.due("20: there and back", z.length(0, 0, 1, 5, 0), 218 + 156 + 94 + 31 + 31 + 93 + 156 + 218);
    }

    /** Ten points, and all ten lines in eight steps. */
    private static void tenCurves() {
        PatternHouse x = new PatternHouse();
        Due.piece(x, 0, "0,0", "80,0", "160,0", "160,80", "160,160", "80,160", "0,160", "0,120", "0,80", "0,40");
        for (int p = 0; p < 10; p++) x.curve(0, p, 0, 0);
        Due.due("20: all round in eighty ways", x.length(0, 9, 9, 5, 0), 640);
        Due.due("20: through the end", x.length(0, 8, 1, 5, 0), 160);
        Due.due("22: in eighty ways", x.area(0, 5, 0), 51200);
        Due.due("34: in eighty ways", x.cells(0, 5, 0), 256);
    }

    private static void lengthOn() {
        PatternHouse x = new PatternHouse();
        Due.piece(x, 0, "0,0", "a,0", "a,10");
        x.body(6);
        x.measure(0, 0, 50);
        Due.due("21: the body's", x.lengthOn(0, 0, 1, 0), 50);
        x.grade(0, 1, 3, 0);
        Due.due("21: graded", x.lengthOn(0, 0, 1, 0), 53);
        x.alter(0, 1, 0, -13, 0);
        Due.due("21: altered", x.lengthOn(0, 0, 1, 0), 40);
        x.days(1);
        Due.rule(x, 0, 0, 1, "10,0");
        Due.due("21: as of now", x.lengthOn(0, 0, 1, 0), 30);
        Due.due("21: no piece", x.lengthOn(1, 0, 1, 0), -1);
        Due.due("21: no point", x.lengthOn(0, 0, 3, 0), -1);
        Due.due("21: no body", x.lengthOn(0, 0, 1, 1), -1);
        x.piece(0, 3, -1);
        Due.due("21: broken", x.lengthOn(1, 0, 1, 0), -7);
    }

    private static void area() {
        PatternHouse x = new PatternHouse();
        for (int kind = 0; kind < 3; kind++) Due.box(x, kind, 30, 20);
        x.piece(3, 4, 0);
        Due.due("22: plain", x.area(0, 5, 0), 1200);
        Due.due("22: folded", x.area(1, 5, 0), 2400);
        Due.due("22: paired", x.area(2, 5, 0), 2400);
        Due.due("22: borrowed", x.area(3, 5, 0), 1200);
        int other = Due.piece(x, 0, "0,20", "30,20", "30,0", "0,0");
        Due.due("22: the other way round", x.area(other, 5, 0), 1200);
        int knot = Due.piece(x, 0, "0,0", "10,10", "10,0", "0,10");
        Due.due("22: a knot", x.area(knot, 5, 0), 0);
        x.grade(0, 1, 10, 0);
        x.grade(0, 2, 10, 0);
        Due.due("22: at a size", x.area(0, 6, 0), 1600);
        Due.rule(x, 0, 2, 2, "x1,40");
        Due.due("22: as of a day", x.area(0, 5, 2), 1800);
        Due.due("22: no piece", x.area(6, 5, -1), -1);
        Due.due("22: no size", x.area(0, 11, 0), -1);
        Due.due("22: day -1", x.area(0, 5, -1), -4);
        Due.due("22: day 1001", x.area(0, 5, 1001), -6);
        PatternHouse big = new PatternHouse();
        String m = "0-1000*1000";
        String p = "1000*1000";
        Due.piece(big, 2, m + "," + m, p + "," + m, p + "," + p, m + "," + p);
        Due.due("22: the greatest", big.area(0, 5, 0), 16000000000000L);
    }
}
