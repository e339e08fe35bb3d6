/** Houses in which something is told already, for tests of limits: all begin as a new object. */
final class World {
    static final int TODAY = 3;
    static final int PLAIN = 0;
    static final int BROKEN = 1;
    static final int WITHDRAWN = 2;
    static final int FOLDED = 3;
    static final int BORROWED = 4;

    interface Told {
        void tell(Calls x);
    }

    private World() {
    }

    /** Nothing is told. */
    static void nothing(Calls x) {
    }

    /** Some of everything, with room for more of each; the text is "7,8", the row has four bytes. */
    static void some(Calls x) {
        somePieces(x);
        x.ask("days", TODAY);
        x.ask("table", 0, 5, 104);
        x.ask("measure", 0, 0, 95);
        x.ask("grade", PLAIN, 1, 2, -1);
        x.ask("curve", PLAIN, 2, 5, -7);
        x.ask("alter", PLAIN, 1, 0, 4, -3);
        someSeams(x);
        x.ask("condition", 1, 1, 0, 0, 0, 0, 10);
        someCloth(x);
        x.ask("trial", PLAIN, 0, 0, 1, 100, 9);
        x.ask("trial", PLAIN, 0, 1, 2, 40, 0);
        x.ask("trial", PLAIN, 0, 1, 2, 50, 0);
        x.ask("trial", BROKEN, 0, 0, 1, 5, 5);
        someEditions(x);
        x.ask("order", 0, 7);
        x.ask("order", 1, 3);
        x.ask("marker", 1, 10);
        x.ask("marker", 12, 25);
        x.feed("7,8");
    }

    private static void somePieces(Calls x) {
        x.ask("table", 0, 5, 100);
        x.ask("table", 1, 5, 40);
        x.ask("table", 0, 6, 110);
        x.ask("body", 5);
        x.ask("body", 7);
        piece(x, 0, "0,0", "a,0", "a,b", "0,b");
        x.ask("piece", 0, 3, -1);
        piece(x, 2, "1,2", "9,2", "1,9");
        x.ask("withdraw", WITHDRAWN);
        piece(x, 1, "0,0", "60,0", "0,60");
        x.ask("piece", 3, 4, PLAIN);
        x.rule(BORROWED, 2, 0, "x1+5,50");
    }

    private static void someSeams(Calls x) {
        x.ask("seam", PLAIN, 0, 1, BORROWED, 0, 1, -9, 9);
        x.ask("seam", BROKEN, 0, 1, PLAIN, 0, 1, 0, 0);
        x.ask("seam", PLAIN, 1, 2, FOLDED, 0, 1, -999, 999);
        x.ask("notch", 0, 30, 31);
        x.ask("notch", 0, 60, 61);
        x.ask("gather", 0, 5);
    }

    private static void someCloth(Calls x) {
        x.ask("cloth", 3, 2);
        x.ask("cloth", 4, 10);
        x.ask("lays", PLAIN, 5);
        x.ask("lays", FOLDED, 5);
        for (int v : new int[] {0, 0, 0, 12}) x.ask("put", v);
    }

    private static void someEditions(Calls x) {
        x.ask("edition");
        x.ask("holds", PLAIN, 5);
        x.ask("holds", FOLDED, 6);
        x.ask("word", 0, 0, 0, 4);
        x.ask("word", 0, 0, 1, 77);
    }

    static void piece(Calls x, int kind, String... texts) {
        long piece = x.ask("piece", kind, texts.length, -1);
        long today = x.ask("count", 0);
        for (int p = 0; p < texts.length; p++) x.rule((int) piece, p, (int) today, texts[p]);
    }

    static void box(Calls x, int kind, int wide, int high) {
        piece(x, kind, "0,0", wide + ",0", wide + "," + high, "0," + high);
    }

    // ---- some of everything, and one thing that is at its end

    static void lastDay(Calls x) {
        some(x);
        x.ask("days", 1000 - TODAY);
    }

    static void allBodies(Calls x) {
        some(x);
        for (int k = 2; k < 12; k++) x.ask("body", k % 11);
    }

    static void allPieces(Calls x) {
        some(x);
        for (int k = 5; k < 16; k++) x.ask("piece", k % 3, 3, -1);
    }

    static void allBytes(Calls x) {
        some(x);
        for (int k = 0; k < 7; k++) x.ask("feed", 8, Due.packed("+1-1+1-1"));
        x.ask("feed", 1, '0');
    }

    static void threeBytesLess(Calls x) {
        some(x);
        for (int k = 0; k < 6; k++) x.ask("feed", 8, Due.packed("+1-1+1-1"));
        x.ask("feed", 6, Due.packed("+1-1+1"));
    }

    static void faultyText(Calls x) {
        some(x);
        x.feed("+");
    }

    static void noText(Calls x) {
        some(x);
        x.ask("rule", BORROWED, 3, TODAY);
    }

    /** Two pieces alone, for the rules take many calls; the text is "7,8". */
    static void allRules(Calls x) {
        x.ask("piece", 0, 10, -1);
        x.ask("piece", 0, 10, -1);
        for (int k = 0; k < 120; k++) x.rule(0, k % 10, k / 10, "a,1");
        x.ask("days", TODAY);
        x.ask("withdraw", 1);
        x.feed("7,8");
    }

    /** All rules there can be, and a text that is faulty. */
    static void allRulesAndFault(Calls x) {
        allRules(x);
        x.feed("+");
    }

    /** A third body, and forty moves of altering: the first told anew, those of the third body not all told. */
    static void allAltered(Calls x) {
        some(x);
        x.ask("body", 1);
        for (int k = 0; k < 40; k++) x.ask("alter", pieceOf(k % 17), pointOf(k % 17), k / 17, k, -k);
    }

    /** Seventeen points: four of the plain and the borrowed piece, three of each other one. */
    static int pieceOf(int k) {
        return k < 4 ? PLAIN : k < 13 ? 1 + (k - 4) / 3 : BORROWED;
    }

    static int pointOf(int k) {
        return k < 4 ? k : k < 13 ? (k - 4) % 3 : k - 13;
    }

    static void allSeams(Calls x) {
        some(x);
        for (int k = 3; k < 20; k++) x.ask("seam", PLAIN, 0, 0, PLAIN, k % 4, k % 4, 0, 0);
    }

    static void allNotches(Calls x) {
        some(x);
        for (int k = 2; k < 6; k++) x.ask("notch", 0, 61 + k, 62 + k);
    }

    static void allConditions(Calls x) {
        some(x);
        x.ask("condition", 0, 1, 1, 0, 0, 0, 4);
    }

    static void barred(Calls x) {
        some(x);
        x.ask("condition", 2, 2, 0, 0, 0, 0, 21);
    }

    static void allLaid(Calls x) {
        some(x);
        x.ask("lays", PLAIN, 5);
        x.ask("lays", FOLDED, 5);
    }

    static void allOfRow(Calls x) {
        some(x);
        for (int k = 4; k < 12; k++) x.ask("put", 0);
    }

    /** The row has three bytes for each on the marker. */
    static void rowForAll(Calls x) {
        some(x);
        x.ask("put", 0);
        x.ask("put", 0);
    }

    static void narrowRowForAll(Calls x) {
        narrow(x);
        x.ask("put", 0);
        x.ask("put", 0);
    }

    static void brokenAndShortRow(Calls x) {
        some(x);
        x.ask("lays", BROKEN, 5);
    }

    static void rowTooLong(Calls x) {
        rowForAll(x);
        x.ask("put", 0);
    }

    static void nothingLaid(Calls x) {
        some(x);
        x.ask("clear");
    }

    /** One of both is broken; the other would not find room, either. The row is long enough. */
    static void brokenLaid(Calls x) {
        narrow(x);
        x.ask("clear");
        x.ask("lays", BROKEN, 5);
        x.ask("put", 0);
        x.ask("put", 0);
        x.ask("lays", PLAIN, 5);
    }

    /** One of both is wider than 24 cells; there would be no room, either. The row is long enough. */
    static void tooWideLaid(Calls x) {
        narrow(x);
        x.ask("put", 0);
        x.ask("put", 0);
        x.ask("cloth", 1, 4);
    }

    /** No middle of a cell is inside of one of both. The row is long enough. */
    static void noCellLaid(Calls x) {
        rowForAll(x);
        x.ask("cloth", 1, 110);
    }

    /** No room across the cloth. */
    static void narrow(Calls x) {
        some(x);
        x.ask("cloth", 0, 3);
    }

    static void allTrials(Calls x) {
        some(x);
        for (int k = 4; k < 30; k++) x.ask("trial", FOLDED, 1, 0, 1, k, k);
    }

    static void brokenLetsNone(Calls x) {
        some(x);
        x.ask("trial", BROKEN, 0, 0, 1, 50, 0);
    }

    static void allEditions(Calls x) {
        some(x);
        for (int k = 1; k < 12; k++) x.ask("edition");
    }

    static void noEdition(Calls x) {
        somePieces(x);
    }

    /** The latest edition's day is over; it holds all it can, too. */
    static void editionOver(Calls x) {
        allHeld(x);
        x.ask("days", 1);
    }

    static void allHeld(Calls x) {
        some(x);
        for (int k = 2; k < 8; k++) x.ask("holds", PLAIN, k);
    }

    static void allWords(Calls x) {
        some(x);
        for (int k = 2; k < 12; k++) x.ask("word", 0, 1, 2, k);
    }

    static void allMarkers(Calls x) {
        some(x);
        for (int k = 2; k < 6; k++) x.ask("marker", 10 + k, 9 + k);
    }

    static void noSeason(Calls x) {
        some(x);
        x.ask("order", 4, 1);
    }
}
