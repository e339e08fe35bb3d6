/** Promises 33 to 41: cloth, cells, markers, layings that are judged, shrinking. */
public final class ClothTest {
    public static void main(String[] args) {
        cloth();
        cells();
        cellsExactly();
        ends();
        folded();
        movedHome();
        lays();
        clear();
        shortest();
        orders();
        firstIsNotLaidFirst();
        narrowAndWide();
        noRoom();
        place();
        put();
        judge();
        judgeEdges();
        cut();
        Due.finish("ClothTest");
    }

    private static void cloth() {
        PatternHouse x = new PatternHouse();
        int[][] dues = {{12, 1, 24}, {10, 1, 500}, {0, 0, 1}, {0, 0, 12}, {0, 0, 50}, {0, 0, 50}};
        for (int what = 0; what < 6; what++) {
            Due.due("33: at first, of " + what, x.cloth(what, dues[what][1]), dues[what][0]);
            Due.due("33: the greatest of " + what, x.cloth(what, dues[what][2]), dues[what][1]);
            Due.due("33: below, of " + what, x.cloth(what, dues[what][1] - 1), -4);
            Due.due("33: above, of " + what, x.cloth(what, dues[what][2] + 1), -6);
            Due.due("33: refused, as it was, of " + what, x.cloth(what, dues[what][1]), dues[what][2]);
        }
        Due.due("33: what 6", x.cloth(6, -1), -2);
        Due.due("33: what -1", x.cloth(-1, 1), -2);
        Due.refused(x, "of cloth", 0, 2, 0, 6, 0, 6, 0);
    }

    private static void cells() {
        PatternHouse x = new PatternHouse();
        for (int kind = 0; kind < 3; kind++) Due.box(x, kind, 50, 30);
        Due.due("34: plain", x.cells(0, 5, 0), 15);
        Due.due("34: folded", x.cells(1, 5, 0), 30);
        Due.due("34: paired, one of them", x.cells(2, 5, 0), 15);
        x.cloth(1, 5);
        Due.due("34: smaller cells", x.cells(0, 5, 0), 60);
        x.grade(0, 1, 5, 0);
        x.grade(0, 2, 5, 0);
        Due.due("34: at a size", x.cells(0, 7, 0), 72);
        Due.rule(x, 0, 2, 3, "x1,60");
        Due.rule(x, 0, 3, 3, "0,60");
        Due.due("34: as of a day", x.cells(0, 5, 3), 120);
        Due.due("34: no piece", x.cells(3, 5, -1), -1);
        Due.due("34: no size", x.cells(0, 11, 0), -1);
        Due.due("34: day -1", x.cells(0, 5, -1), -4);
        Due.due("34: day 1001", x.cells(0, 5, 1001), -6);
        x.piece(0, 3, -1);
        Due.due("34: broken", x.cells(3, 5, 0), -7);
        PatternHouse y = new PatternHouse();
        Due.box(y, 0, 240, 240);
        Due.box(y, 0, 241, 10);
        Due.box(y, 0, 10, 241);
        Due.box(y, 1, 120, 10);
        Due.box(y, 1, 121, 10);
        Due.piece(y, 0, "1000*1000,0-300", "1000*1000-30,0-300", "1000*1000-30,0-320", "1000*1000,0-320");
        int[] dues = {576, 0, 0, 24, 0, 6};
        for (int k = 0; k < dues.length; k++) Due.due("34: wide and long, " + k, y.cells(k, 5, 0), dues[k]);
    }

    private static int cellsOf(int kind, String... texts) {
        PatternHouse x = new PatternHouse();
        return x.cells(Due.piece(x, kind, texts), 5, 0);
    }

    private static void cellsExactly() {
        Due.due("34: a middle on the way to greater X is not inside", cellsOf(0, "0,0", "35,0", "35,10", "0,10"), 3);
        Due.due("34: a bit farther it is", cellsOf(0, "0,0", "36,0", "36,10", "0,10"), 4);
        Due.due("34: a middle on the lower way is not inside", cellsOf(0, "0,0", "10,0", "10,5", "0,5"), 0);
        Due.due("34: a bit farther it is", cellsOf(0, "0,0", "10,0", "10,6", "0,6"), 1);
        Due.due("34: a slope through the middles", cellsOf(0, "0,0", "60,0", "0,60"), 15);
        Due.due("34: a slope a bit outside of them", cellsOf(0, "0,0", "61,0", "0,61"), 21);
        Due.due("34: a slope a bit inside of them", cellsOf(0, "0,0", "59,0", "0,59"), 15);
        Due.due("34: a slope at lesser X, through the middles", cellsOf(0, "60,0", "60,60", "0,60"), 21);
        Due.due("34: nothing inside", cellsOf(0, "0,0", "40,0", "20,0"), 0);
        Due.due("34: a knot has no inside twice over", cellsOf(0, "0,0", "40,0", "40,20", "0,20", "0,0", "40,0",
            "40,20", "0,20"), 0);
        Due.due("34: a hole by the rule of odd ways", cellsOf(0, "0,0", "50,0", "50,50", "10,50", "10,10", "40,10",
            "40,40", "0,40"), 25 - 9 - 1 + 9 - 9);
        Due.due("34: folded beside its fold", cellsOf(1, "10,0", "30,0", "30,10", "20,10"), 3);
        Due.due("34: folded, its turned ways lie over it", cellsOf(1, "20,0", "40,0", "40,10", "10,10", "10,0"), 2);
        PatternHouse x = new PatternHouse();
        Due.box(x, 0, 40, 20);
        x.curve(0, 0, 0, -40);
        Due.due("34: a curve's ways", x.cells(0, 5, 0), 8 + 6);
        x.curve(0, 0, 0, 40);
        Due.due("34: a curve to the inside", x.cells(0, 5, 0), 2);
    }

    /** The least and the greatest step, and pieces as wide and as long as they may be, wherever they lie. */
    private static void ends() {
        PatternHouse x = new PatternHouse();
        x.cloth(1, 1);
        Due.box(x, 0, 24, 24);
        Due.box(x, 0, 25, 24);
        Due.box(x, 0, 24, 25);
        int[] small = {576, 0, 0};
        for (int k = 0; k < 3; k++) Due.due("34: step 1, " + k, x.cells(k, 5, 0), small[k]);
        PatternHouse y = new PatternHouse();
        y.cloth(1, 500);
        Due.piece(y, 0, "0,0", "120*100,0", "120*100,120*100", "0,120*100");
        Due.piece(y, 0, "0,0", "120*100+1,0", "120*100+1,500", "0,500");
        Due.piece(y, 0, "0,0", "500,0", "500,120*100+1", "0,120*100+1");
        int[] large = {576, 0, 0};
        for (int k = 0; k < 3; k++) Due.due("34: step 500, " + k, y.cells(k, 5, 0), large[k]);
        Due.due("34: far along Y", cellsOf(0, "0,300", "30,300", "30,540", "0,540"), 72);
        Due.due("34: far along Y, too long", cellsOf(0, "0,300", "30,300", "30,541", "0,541"), 0);
        Due.due("34: far along X", cellsOf(0, "300,0", "540,0", "540,30", "300,30"), 72);
        Due.due("34: far along X, too wide", cellsOf(0, "300,0", "541,0", "541,30", "300,30"), 0);
        Due.due("34: point 0 alone has the least X", cellsOf(0, "100,110", "140,100", "140,120"), 4);
        Due.due("34: point 0 alone has the least Y", cellsOf(0, "110,100", "120,140", "100,140"), 4);
        Due.due("34: point 0 alone has the greatest X", cellsOf(0, "340,110", "100,100", "100,120"), 24);
        Due.due("34: point 0 alone makes it too wide", cellsOf(0, "341,110", "100,100", "100,120"), 0);
        Due.due("34: point 0 alone makes it too long", cellsOf(0, "110,341", "100,100", "120,100"), 0);
    }

    private static int longOf(int width, int kind, String... texts) {
        PatternHouse x = new PatternHouse();
        x.cloth(0, width);
        x.lays(Due.piece(x, kind, texts), 5);
        return x.shortest(0);
    }

    /** Turned over at the X of point 0, wherever that is: whole, and too wide only as a whole. */
    private static void folded() {
        Due.due("34: folded to the left", cellsOf(1, "100,0", "130,0", "130,10", "100,10"), 6);
        Due.due("37: in one, to the left", longOf(1, 1, "100,0", "130,0", "130,10", "100,10"), 6);
        Due.due("37: in one, to the right", longOf(1, 1, "130,0", "100,0", "100,10", "130,10"), 6);
        // at the middle's Y from 75 to 90 and from 110 to 125: middles at 75, 85 and 115 are inside
        Due.due("37: apart from its fold", longOf(1, 1, "100,0", "120,0", "130,10", "120,10"), 5);
        Due.due("34: as wide as it may be, to the left", cellsOf(1, "500,0", "620,0", "620,10", "500,10"), 24);
        Due.due("34: too wide, to the left", cellsOf(1, "500,0", "621,0", "621,10", "500,10"), 0);
        Due.due("34: as wide as it may be, to the right", cellsOf(1, "620,0", "500,0", "500,10", "620,10"), 24);
        Due.due("34: too wide, to the right", cellsOf(1, "621,0", "500,0", "500,10", "621,10"), 0);
        Due.due("34: as long as it may be", cellsOf(1, "500,0", "510,0", "510,240", "500,240"), 48);
        Due.due("34: too long", cellsOf(1, "500,0", "510,0", "510,241", "500,241"), 0);
        PatternHouse x = new PatternHouse();
        Due.piece(x, 1, "100,0", "120,0", "120,10", "100,10");
        x.grade(0, 0, 10, 0);
        x.grade(0, 3, 10, 0);
        Due.due("34: at the X of the graded point 0", x.cells(0, 6, 0), 2);
        Due.due("34: at the X of the other graded point 0", x.cells(0, 4, 0), 6);
    }

    /** Neither the first row nor the first column has a cell: those that have are the first ones then. */
    private static void movedHome() {
        String[] up = {"30,0", "60,60", "0,60"};
        String[] right = {"0,30", "60,0", "60,60"};
        Due.due("34: the first row has none", cellsOf(0, up), 2 + 2 + 4 + 4 + 6);
        Due.due("37: five rows are enough", longOf(5, 0, up), 6);
        Due.due("37: four are not", longOf(4, 0, up), -3);
        Due.due("34: the first column has none", cellsOf(0, right), 2 + 2 + 4 + 4 + 6);
        Due.due("37: it is five long", longOf(6, 0, right), 5);
        Due.due("37: not across five rows", longOf(5, 0, right), -3);
        PatternHouse x = new PatternHouse();
        Due.piece(x, 0, up);
        x.lays(0, 5);
        x.cloth(0, 5);
        Due.due("38: at row 0", x.place(0, 1), 0);
        Due.due("40: at row 0", judged(x, 0, 0, 0), 6);
        Due.due("40: not at row 1", judged(x, 0, 1, 0), -100);
        Due.due("40: turned at row 0", judged(x, 0, 0, 1), 6);
        Due.due("40: as far as column 90", judged(x, 90, 0, 0), 96);
        Due.due("40: not as far as column 91", judged(x, 91, 0, 0), -100);
        int[][] upCells = {{2, 0}, {3, 1}, {1, 2}, {4, 3}, {0, 4}, {5, 4}};
        int[][] upFree = {{1, 0}, {4, 1}, {0, 2}, {5, 3}, {2, 5}, {6, 4}};
        besideIt(up, upCells, upFree);
        int[][] rightCells = {{0, 2}, {0, 3}, {1, 2}, {2, 1}, {3, 4}, {4, 0}, {4, 5}};
        int[][] rightFree = {{0, 1}, {0, 4}, {1, 1}, {2, 0}, {3, 5}, {5, 0}, {4, 6}};
        besideIt(right, rightCells, rightFree);
    }

    /** A single cell is laid where the piece has one, and where it has none. */
    private static void besideIt(String[] texts, int[][] its, int[][] free) {
        PatternHouse x = new PatternHouse();
        x.lays(Due.piece(x, 0, texts), 5);
        int alone = x.shortest(0);
        x.lays(Due.box(x, 0, 10, 10), 5);
        for (int[] c : its) Due.due("40: its cell " + c[0] + " " + c[1], judged(x, 0, 0, 0, c[0], c[1], 0), -101);
        for (int[] c : free) {
            Due.due("40: not its cell " + c[0] + " " + c[1], judged(x, 0, 0, 0, c[0], c[1], 0), Math.max(alone, c[0] + 1));
        }
    }

    private static void lays() {
        PatternHouse x = new PatternHouse();
        x.piece(0, 3, -1);
        Due.due("35: no piece", x.lays(1, 5), -1);
        Due.due("35: no size", x.lays(0, 11), -1);
        for (int k = 1; k <= 4; k++) Due.due("35: broken ones, too, " + k, x.lays(0, k), k);
        Due.due("35: a fifth", x.lays(0, 5), -6);
        Due.due("35: nobody first", x.lays(0, -1), -1);
        Due.due("35: four", x.count(6), 4);
    }

    private static void clear() {
        PatternHouse x = new PatternHouse();
        Due.due("36: nothing", x.clear(), 0);
        Due.box(x, 0, 20, 20);
        x.lays(0, 5);
        x.lays(0, 5);
        x.put(3);
        Due.due("36: two", x.clear(), 2);
        Due.due("36: nothing then", x.count(6), 0);
        Due.due("36: nothing is on it", x.shortest(0), -5);
        Due.due("36: the row is not the marker's", x.put(3), 2);
        Due.due("36: laid anew", x.lays(0, 5), 1);
    }

    private static void shortest() {
        PatternHouse x = new PatternHouse();
        Due.due("37: what first", x.shortest(2), -2);
        Due.due("37: what -1", x.shortest(-1), -2);
        Due.due("37: nothing on it", x.shortest(0), -5);
        Due.due("37: nothing on it, bound", x.shortest(1), -5);
        Due.box(x, 0, 50, 50);
        x.lays(0, 5);
        Due.due("37: one", x.shortest(0), 5);
        Due.due("37: its bound, cut up", x.shortest(1), 3);
        x.cloth(0, 5);
        Due.due("37: the bound by width", x.shortest(1), 5);
        x.cloth(0, 10);
        x.lays(0, 5);
        Due.due("37: beside one another", x.shortest(0), 5);
        x.cloth(0, 9);
        Due.due("37: behind one another", x.shortest(0), 10);
        x.cloth(3, 7);
        Due.due("37: by stripes", x.shortest(0), 12);
        x.grade(0, 1, 10, 0);
        x.grade(0, 2, 10, 0);
        x.lays(0, 6);
        Due.due("37: at their sizes, the wide one first", x.shortest(0), 19);
        x.days(1);
        Due.rule(x, 0, 2, 1, "x1,40");
        Due.rule(x, 0, 3, 1, "0,40");
        Due.due("37: as of now", x.shortest(0), 12);
        Due.due("37: bound as of now", x.shortest(1), 8);
        x.piece(0, 3, -1);
        x.lays(1, 5);
        Due.due("37: one is broken", x.shortest(0), -7);
        Due.due("37: one is broken, bound", x.shortest(1), -7);
        x.clear();
        int far = Due.box(x, 0, 300, 10);
        x.lays(far, 5);
        Due.due("37: one can't be laid", x.shortest(0), -7);
        x.clear();
        int thin = Due.box(x, 0, 100, 4);
        x.lays(thin, 5);
        Due.due("37: one has no cell", x.shortest(1), -7);
        Due.refused(x, "of shortest", 0, 2, 0, 0, 2, 0, 4);
    }

    /** A flat one, a tall one and a corner: the first order is not the best one. */
    private static void orders() {
        PatternHouse x = new PatternHouse();
        x.cloth(0, 4);
        Due.box(x, 0, 20, 30);
        Due.box(x, 0, 40, 20);
        Due.box(x, 0, 20, 20);
        x.lays(0, 5);
        x.lays(1, 5);
        x.lays(2, 5);
        // 0 1 2: columns 0..1, 2..5, then 2..3 beside it
        Due.due("37: the first order", x.shortest(0), 6);
        Due.due("38: the second lies behind", x.place(1, 0), 2);
        Due.due("38: the third beside it", x.place(2, 1), 2);
        x.clear();
        x.lays(2, 5);
        x.lays(0, 5);
        x.lays(1, 5);
        // 2 0 1: 0..1, then 2..3, then 4..7: long 8; 2 1 0: 0..1, then 0..3 beside it, then 4..5: long 6
        Due.due("37: a later order", x.shortest(0), 6);
        int[] dues = {0, 0, 4, 0, 0, 2};
        for (int k = 0; k < 6; k++) Due.due("38: by the later order " + k, x.place(k / 2, k % 2), dues[k]);
        PatternHouse y = new PatternHouse();
        y.cloth(0, 6);
        Due.piece(y, 0, "0,0", "60,0", "0,60");
        y.lays(0, 5);
        y.lays(0, 5);
        // its columns are 5, 4, 3, 2, 1 cells high
        Due.due("37: turned half round into one another", y.shortest(0), 5);
        Due.due("38: its turn", y.place(1, 2), 1);
        Due.due("38: the first as it is", y.place(0, 2), 0);
        y.cloth(2, 1);
        Due.due("37: one way", y.shortest(0), 9);
        Due.due("38: one way, its column", y.place(1, 0), 4);
        Due.due("38: one way, its row", y.place(1, 1), 1);
        Due.due("38: no turn one way", y.place(1, 2), 0);
    }

    /** The best order begins with the second: 1 3 2 0 would do, too, but 1 2 0 3 comes first. */
    private static void firstIsNotLaidFirst() {
        PatternHouse x = new PatternHouse();
        x.cloth(0, 4);
        int[][] boxes = {{30, 10}, {30, 20}, {20, 30}, {20, 20}};
        for (int i = 0; i < 4; i++) x.lays(Due.box(x, 0, boxes[i][0], boxes[i][1]), 5);
        Due.due("37: four that fill the cloth", x.shortest(0), 5);
        Due.due("37: as its bound", x.shortest(1), 5);
        int[][] dues = {{2, 3, 0}, {0, 0, 0}, {3, 0, 0}, {0, 2, 0}};
        for (int i = 0; i < 4; i++) {
            for (int what = 0; what < 3; what++) Due.due("38: of " + i + " " + what, x.place(i, what), dues[i][what]);
        }
    }

    private static void narrowAndWide() {
        PatternHouse x = new PatternHouse();
        Due.box(x, 0, 240, 240);
        Due.box(x, 0, 50, 10);
        x.lays(0, 5);
        x.cloth(0, 24);
        Due.due("37: all rows", x.shortest(0), 24);
        Due.due("37: bound of all rows", x.shortest(1), 24);
        x.cloth(0, 23);
        Due.due("37: one row less", x.shortest(0), -3);
        x.clear();
        x.lays(1, 5);
        x.lays(1, 5);
        x.cloth(0, 1);
        Due.due("37: one row", x.shortest(0), 10);
        Due.due("37: bound of one row", x.shortest(1), 10);
        x.cloth(3, 1);
        Due.due("37: a stripe of 1 bars nothing", x.shortest(0), 10);
        x.cloth(3, 12);
        Due.due("37: a stripe of 12", x.shortest(0), 17);
        Due.due("37: no stripe in its bound", x.shortest(1), 10);
        x.cloth(0, 24);
        Due.due("38: across first", x.place(1, 0), 0);
        Due.due("38: its row", x.place(1, 1), 1);
    }

    private static void noRoom() {
        PatternHouse x = new PatternHouse();
        Due.box(x, 0, 240, 130);
        x.lays(0, 5);
        Due.due("37: too wide for the cloth", x.shortest(0), -3);
        Due.due("37: the bound, too", x.shortest(1), -3);
        Due.due("38: no place", x.place(9, 0), -3);
        x.cloth(0, 13);
        for (int k = 0; k < 3; k++) x.lays(0, 5);
        Due.due("37: four that fill the cloth", x.shortest(0), 96);
        Due.due("38: the last one", x.place(3, 0), 72);
        x.cloth(3, 5);
        Due.due("37: by stripes they don't", x.shortest(0), -3);
        x.cloth(3, 12);
        Due.due("37: by others they do", x.shortest(0), 96);
        Due.refused(x, "of no room", 0, 0, 4);
    }

    private static void place() {
        PatternHouse x = new PatternHouse();
        Due.due("38: what first", x.place(0, 3), -2);
        Due.due("38: what -1", x.place(0, -1), -2);
        Due.due("38: nothing on it", x.place(9, 0), -5);
        int none = x.piece(0, 3, -1);
        Due.box(x, 0, 30, 20);
        x.lays(none, 5);
        Due.due("38: broken", x.place(9, 0), -7);
        x.clear();
        x.cloth(3, 2);
        for (int k = 0; k < 4; k++) x.lays(1, 5);
        x.cloth(0, 5);
        int[][] dues = {{0, 0, 0}, {0, 2, 0}, {4, 0, 0}, {4, 2, 0}};
        for (int i = 0; i < 4; i++) {
            for (int what = 0; what < 3; what++) Due.due("38: of " + i + " " + what, x.place(i, what), dues[i][what]);
        }
        Due.due("38: no fifth", x.place(4, 0), -1);
        Due.due("38: -1", x.place(-1, 0), -1);
        Due.refused(x, "of place", 2, 2, 0, 0, 1, 0, 1);
    }

    private static void put() {
        PatternHouse x = new PatternHouse();
        Due.due("39: below", x.put(-1), -4);
        Due.due("39: above", x.put(96), -6);
        for (int k = 1; k <= 12; k++) Due.due("39: byte " + k, x.put(k == 1 ? 95 : 0), k);
        Due.due("39: a thirteenth", x.put(0), -6);
        Due.due("39: below first", x.put(-1), -4);
    }

    private static int judged(PatternHouse x, int... bytes) {
        for (int b : bytes) x.put(b);
        return x.judge();
    }

    private static void judge() {
        PatternHouse x = new PatternHouse();
        Due.due("40: nothing on the marker", x.judge(), -5);
        Due.piece(x, 0, "0,0", "60,0", "0,60");
        Due.box(x, 0, 30, 20);
        x.lays(0, 5);
        x.lays(1, 5);
        Due.due("40: no bytes", x.judge(), -5);
        Due.due("40: a byte lacks", judged(x, 0, 0, 0, 5, 0), -5);
        Due.due("40: the row stays", x.put(0), 6);
        Due.due("40: long", x.judge(), 8);
        Due.due("40: the row has none then", x.put(0), 1);
        Due.due("40: a byte too much", judged(x, 0, 0, 3, 3, 0, 0), -5);
        Due.due("40: still so", x.judge(), -5);
        x.lays(1, 5);
        Due.due("40: bytes for three", judged(x, 10, 0), 6);
        Due.due("40: over one another", judged(x, 0, 0, 0, 2, 0, 0, 50, 0, 0), -101);
        Due.due("40: over none of its cells", judged(x, 0, 0, 0, 3, 3, 1, 0, 6, 0), 6);
        Due.due("40: over one of its cells", judged(x, 0, 0, 1, 0, 0, 0, 50, 0, 0), 53);
        Due.due("40: over it as it is", judged(x, 0, 0, 0, 0, 0, 0, 50, 0, 0), -101);
        Due.due("40: over one that is not next", judged(x, 0, 0, 0, 50, 0, 0, 51, 1, 0), -102);
        Due.due("40: turn 2", judged(x, 0, 0, 2, 5, 0, 0, 50, 0, 0), -100);
        Due.due("40: the last column", judged(x, 0, 0, 0, 5, 0, 0, 93, 10, 0), 96);
        Due.due("40: beyond it", judged(x, 0, 0, 0, 5, 0, 0, 94, 10, 0), -102);
        Due.due("40: beyond the width", judged(x, 0, 0, 0, 5, 11, 0, 50, 0, 0), -101);
        Due.due("40: far beyond both", judged(x, 95, 95, 0, 5, 0, 0, 50, 0, 0), -100);
        x.cloth(3, 5);
        Due.due("40: on stripes", judged(x, 0, 0, 0, 5, 0, 0, 50, 0, 1), 53);
        Due.due("40: off stripes", judged(x, 0, 0, 0, 5, 0, 0, 51, 0, 0), -102);
        x.cloth(2, 1);
        Due.due("40: turned, one way", judged(x, 0, 0, 0, 5, 0, 1, 50, 0, 0), -101);
        Due.due("40: not turned, one way", judged(x, 0, 0, 0, 5, 0, 0, 50, 0, 0), 53);
        x.clear();
        x.lays(0, 5);
        x.days(1);
        Due.rule(x, 0, 2, 1, "1/0,0");
        Due.due("40: broken now", judged(x, 0, 0, 0), -7);
        Due.due("40: refused, the row stays", x.put(0), 4);
        Due.refused(x, "of judge", 0, 0, 0, 0, 5, 0, 1);
    }

    /** Over just one column or one row of another one; four on the marker. */
    private static void judgeEdges() {
        PatternHouse x = new PatternHouse();
        Due.box(x, 0, 30, 20);
        for (int k = 0; k < 4; k++) x.lays(0, 5);
        Due.due("40: four", judged(x, 0, 0, 0, 3, 0, 1, 0, 2, 0, 93, 10, 1), 96);
        Due.due("40: over its last column", judged(x, 0, 0, 0, 2, 0, 0, 0, 2, 0, 9, 0, 0), -101);
        Due.due("40: over its first column", judged(x, 2, 0, 0, 0, 0, 0, 0, 2, 0, 9, 0, 0), -101);
        Due.due("40: over its last row", judged(x, 0, 0, 0, 3, 0, 0, 0, 1, 0, 9, 0, 0), -102);
        Due.due("40: over its first row", judged(x, 0, 1, 0, 3, 0, 0, 0, 0, 0, 9, 0, 0), -102);
        Due.due("40: the last of four", judged(x, 0, 0, 0, 3, 0, 0, 6, 0, 0, 8, 1, 0), -103);
        Due.due("40: the first of several", judged(x, 0, 0, 0, 0, 0, 2, 0, 0, 0, 95, 0, 0), -101);
        Due.due("40: the last row", judged(x, 0, 10, 0, 3, 10, 0, 6, 10, 0, 9, 10, 0), 12);
        Due.due("40: beyond the last row", judged(x, 0, 11, 0, 3, 10, 0, 6, 10, 0, 9, 10, 0), -100);
        Due.due("40: no cell in the first columns", judged(x, 9, 0, 0, 6, 0, 0, 3, 0, 0, 20, 0, 0), 23);
        x.cloth(3, 12);
        Due.due("40: stripes of 12", judged(x, 0, 0, 0, 12, 0, 0, 24, 0, 0, 84, 0, 0), 87);
        Due.due("40: one column behind a stripe", judged(x, 0, 0, 0, 12, 0, 0, 24, 0, 0, 85, 0, 0), -103);
        Due.due("40: one column ahead of a stripe", judged(x, 0, 0, 0, 11, 0, 0, 24, 0, 0, 84, 0, 0), -101);
    }

    private static void cut() {
        PatternHouse x = new PatternHouse();
        Due.due("41: no shrinking", x.cut(-99999, 0, false), -99999);
        x.cloth(4, 50);
        x.cloth(5, 3);
        int[][] dues = {{0, 0, 0, 0}, {1, 0, 2, 1}, {-1, 0, -2, -1}, {99999, 0, 199998, 99999}, {1, 1, 2, 1}, {97, 1, 100, 97},
            {98, 1, 102, 98}, {-98, 1, -102, -98}, {33, 1, 35, 33}, {-33, 1, -35, -33}, {-99999, 1, -103092, -99999}};
        for (int[] due : dues) {
            Due.due("41: cut of " + due[0] + " along " + due[1], x.cut(due[0], due[1], false), due[2]);
            Due.due("41: washed of " + due[0] + " along " + due[1], x.cut(due[0], due[1], true), due[3]);
        }
        x.cloth(4, 40);
        Due.due("41: cut up", x.cut(2, 0, false), 4);
        Due.due("41: washed, cut toward 0", x.cut(2, 0, true), 2);
        Due.due("41: below 0 cut down", x.cut(-2, 0, false), -4);
        Due.due("41: below 0 washed, cut toward 0", x.cut(-2, 0, true), -2);
        x.cloth(4, 1);
        Due.due("41: cut up by the least there is over", x.cut(100, 0, false), 102);
        Due.due("41: nothing is over", x.cut(99, 0, false), 100);
        Due.due("41: cut down by the least there is over", x.cut(-100, 0, false), -102);
        x.cloth(4, 25);
        Due.due("41: washed may be more", x.cut(2, 0, true), 2);
        Due.due("41: axis", x.cut(100000, 2, false), 1000000002);
        Due.due("41: axis -1", x.cut(0, -1, true), 1000000002);
        Due.due("41: below", x.cut(-100000, 0, true), 1000000004);
        Due.due("41: above", x.cut(100000, 0, true), 1000000006);
        Due.refused(x, "of cut", 0, 2, 0, 1, 0, 1, 0);
    }
}
