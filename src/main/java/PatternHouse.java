import java.util.Arrays;

/**
 * A house of patterns, as ../shared/DOC.md promises it: pieces drawn by rules from measures, seams,
 * least moves, cloth and its markers, trials, editions and a season. No call ever throws; a call that
 * can't be answered answers a refusal's number and changes nothing but how many of them there were.
 */
public final class PatternHouse {
    private static final int NOBODY = -1;
    private static final int OTHER = -2;
    private static final int STATE = -3;
    private static final int BELOW = -4;
    private static final int MISSING = -5;
    private static final int ROOM = -6;
    private static final int BROKEN = -7;
    private static final int NONE = -9;
    private static final int FAULTY = -20;
    private static final int NO_LAYING = -100;
    /** Refusals of answers that may be below 0 themselves are this less the refusal. */
    private static final int APART = 1000000000;

    private static final int LAST_DAY = 1000;
    private static final int MEASURES = 8;
    private static final int SIZES = 11;
    private static final int MIDDLE_SIZE = 5;
    private static final int MOST_MEASURE = 9999;
    private static final int MOST_BODIES = 12;
    private static final int MOST_PIECES = 16;
    private static final int LEAST_POINTS = 3;
    private static final int MOST_POINTS = 10;
    private static final int MOST_RULES = 120;
    private static final int MOST_TEXT = 60;
    private static final int MOST_FED = 8;
    private static final int MOST_BRACKETS = 5;
    private static final int MOST_DIGITS = 4;
    private static final int MOST_NUMBER = 1000000;
    private static final int MOST_GRADE = 99;
    private static final int MOST_MOVE = 999;
    private static final int MOST_ALTERED = 40;
    private static final int CURVE_STEPS = 8;
    private static final int MOST_SEAMS = 20;
    private static final int MOST_NOTCHES = 6;
    private static final int MOST_WAY = 99999;
    private static final int SEAMS_A_SIZE = 32;
    private static final int MOVES = 6;
    private static final int MOST_CONDITIONS = 2;
    private static final int MOST_COEFFICIENT = 99;
    private static final int MOST_SUM = 9999;
    private static final int MOST_TRIALS = 30;
    private static final int MOST_EDITIONS = 12;
    private static final int MOST_HELD = 8;
    private static final int MOST_WORDS = 12;
    private static final int MOST_WORD = 1000000000;
    private static final int ORDERED_SIZES = 5;
    private static final int MOST_ORDER = 99;
    private static final int MOST_MARKERS = 6;
    private static final int MOST_COUNTS = 99999;
    private static final int MOST_CLOTH = 9999;
    private static final int MOST_CUTS = 9;

    private static final int PLAIN = 0;
    private static final int FOLDED = 1;
    private static final int PAIRED = 2;
    private static final int BORROWED = 3;

    private static final int WIDTH = 0;
    private static final int STEP = 1;
    private static final int ONE_WAY = 2;
    private static final int STRIPE = 3;
    private static final int SHRINK = 4;
    private static final int CLOTH_WHATS = 6;
    private static final int[] CLOTH_AT_FIRST = {12, 10, 0, 0, 0, 0};
    private static final int[] CLOTH_LEAST = {1, 1, 0, 0, 0, 0};
    private static final int[] CLOTH_MOST = {24, 500, 1, 12, 50, 50};
    private static final int SPAN = 24;
    private static final int COLUMNS = 96;
    private static final int MOST_LAID = 4;
    private static final int BYTES_EACH = 3;

    /** A rule's code: numbers up to 9999 stand for themselves, what lies above them for these. */
    private static final int MEASURE_CODE = 10000;
    private static final int X_CODE = 10010;
    private static final int Y_CODE = 10020;
    private static final int ADD = 10030;
    private static final int SUBTRACT = 10031;
    private static final int MULTIPLY = 10032;
    private static final int DIVIDE = 10033;
    private static final int ROOT = 10034;
    /** Far outside of what a rule may make, so that it can't be taken for a number. */
    private static final long NO_NUMBER = -(1L << 60);

    private int today;
    private final int[] refusals = new int[1 - BROKEN];
    private final Telling[] numbers = new Telling[MEASURES * SIZES];
    private final Body[] bodies = new Body[MOST_BODIES];
    private int bodyCount;
    private int alteredCount;
    private int trialCount;
    private final Piece[] pieces = new Piece[MOST_PIECES];
    private int pieceCount;
    private int ruleCount;
    private final RuleText text = new RuleText();
    private final Drawing drawing = new Drawing();
    private final Seam[] seams = new Seam[MOST_SEAMS];
    private int seamCount;
    private final Conditions conditions = new Conditions();
    private final Laying laying = new Laying();
    private final Shape shape = new Shape();
    private final Edition[] editions = new Edition[MOST_EDITIONS];
    private int editionCount;
    private final Season plan = new Season();

    public PatternHouse() {
    }

    // ---- days, the table, bodies

    public int days(int n) {
        if (n < 1) return refuse(BELOW);
        if (n > LAST_DAY - today) return refuse(ROOM);
        today += n;
        return today;
    }

    public int table(int measure, int size, int v) {
        if (!isMeasure(measure) || !isSize(size)) return refuse(NOBODY);
        int why = outside(v, 0, MOST_MEASURE);
        if (why != 0) return refuse(why);
        int was = numberOn(measure, size, today);
        int spot = measure * SIZES + size;
        Telling last = numbers[spot];
        if (last != null && last.day == today) {
            last.value = v;
        } else {
            numbers[spot] = new Telling(today, v, last);
        }
        return was;
    }

    public int tabled(int measure, int size, int day) {
        if (!isMeasure(measure) || !isSize(size)) return refuse(NOBODY);
        int why = outside(day, 0, LAST_DAY);
        if (why != 0) return refuse(why);
        return numberOn(measure, size, day);
    }

    public int body(int size) {
        if (!isSize(size)) return refuse(NOBODY);
        if (bodyCount >= MOST_BODIES) return refuse(ROOM);
        bodies[bodyCount] = new Body(size);
        return bodyCount++;
    }

    public int measure(int body, int measure, int v) {
        Body who = bodyOf(body);
        if (who == null || !isMeasure(measure)) return refuseApart(NOBODY);
        int why = outside(v, Body.UNTOLD, MOST_MEASURE);
        if (why != 0) return refuseApart(why);
        int was = who.told[measure];
        who.told[measure] = v;
        return was;
    }

    public int measured(int body, int measure) {
        Body who = bodyOf(body);
        if (who == null || !isMeasure(measure)) return refuse(NOBODY);
        return countsNow(who, measure);
    }

    // ---- pieces and their rules

    public int piece(int kind, int points, int block) {
        if (kind < PLAIN || kind > BORROWED) return refuse(OTHER);
        Piece lender = pieceOf(block);
        if (kind == BORROWED && (lender == null || !lender.lends())) return refuse(NOBODY);
        if (kind != BORROWED && block != -1) return refuse(STATE);
        int why = outside(points, LEAST_POINTS, MOST_POINTS);
        if (why != 0) return refuse(why);
        if (pieceCount >= MOST_PIECES) return refuse(ROOM);
        pieces[pieceCount] = new Piece(pieceCount, kind, points, lender);
        return pieceCount++;
    }

    public int withdraw(int piece) {
        Piece which = pieceOf(piece);
        if (which == null) return refuse(NOBODY);
        if (which.withdrawn) return refuse(STATE);
        which.withdrawn = true;
        return 1;
    }

    public int feed(int n, long bytes) {
        if (n < 1) return refuse(BELOW);
        if (n > MOST_FED || n > MOST_TEXT - text.size) return refuse(ROOM);
        for (int k = 0; k < n; k++) {
            text.add((int) (bytes >>> (8 * k)) & 255);
        }
        return text.size;
    }

    public int rule(int piece, int point, int from) {
        Piece which = pieceWith(piece, point);
        if (which == null) return refuse(NOBODY);
        if (which.withdrawn) return refuse(STATE);
        int why = outside(from, today, LAST_DAY);
        if (why != 0) return refuse(why);
        if (ruleCount >= MOST_RULES) return refuse(ROOM);
        boolean reads = text.reads(point);
        text.size = 0;
        if (!reads) return FAULTY - text.fault;
        which.rules[point] = new Rule(from, text.codeOfX(), text.codeOfY(), which.rules[point]);
        ruleCount++;
        return ruleCount;
    }

    public int quarrel(int piece, int point, int day) {
        Piece which = pieceWith(piece, point);
        if (which == null) return refuse(NOBODY);
        int why = outside(day, 0, LAST_DAY);
        if (why != 0) return refuse(why);
        return which.rulesAtOnce(point, day);
    }

    public int from(int piece, int point, int day) {
        Piece which = pieceWith(piece, point);
        if (which == null) return refuse(NOBODY);
        int why = outside(day, 0, LAST_DAY);
        if (why != 0) return refuse(why);
        return drawing.comesFrom(which, point, day);
    }

    public int grade(int piece, int point, int dx, int dy) {
        Piece which = pieceWith(piece, point);
        if (which == null) return refuse(NOBODY);
        int why = bothOutside(dx, dy, -MOST_GRADE, MOST_GRADE);
        if (why != 0) return refuse(why);
        which.gradeX[point] = dx;
        which.gradeY[point] = dy;
        return 1;
    }

    public int alter(int piece, int point, int body, int dx, int dy) {
        Piece which = pieceWith(piece, point);
        Body who = bodyOf(body);
        if (which == null || who == null) return refuse(NOBODY);
        int why = bothOutside(dx, dy, -MOST_MOVE, MOST_MOVE);
        if (why != 0) return refuse(why);
        boolean anew = who.isAltered(piece, point);
        if (!anew && alteredCount >= MOST_ALTERED) return refuse(ROOM);
        if (!anew) alteredCount++;
        who.setAltered(piece, point, dx, dy);
        return 1;
    }

    public int curve(int piece, int point, int kx, int ky) {
        Piece which = pieceWith(piece, point);
        if (which == null) return refuse(NOBODY);
        int why = bothOutside(kx, ky, -MOST_MOVE, MOST_MOVE);
        if (why != 0) return refuse(why);
        which.curved[point] = true;
        which.kneeX[point] = kx;
        which.kneeY[point] = ky;
        return 1;
    }

    public int straight(int piece, int point) {
        Piece which = pieceWith(piece, point);
        if (which == null) return refuse(NOBODY);
        if (!which.curved[point]) return 0;
        which.curved[point] = false;
        return 1;
    }

    // ---- drawn pieces

    public int at(int piece, int point, int size, int day, int axis) {
        Piece which = pieceWith(piece, point);
        if (which == null || !isSize(size)) return refuseApart(NOBODY);
        if (!isAxis(axis)) return refuseApart(OTHER);
        int why = outside(day, 0, LAST_DAY);
        if (why != 0) return refuseApart(why);
        drawAt(size, day);
        if (!drawing.sound(which)) return refuseApart(BROKEN);
        return drawing.placeOf(which, point, axis);
    }

    public int on(int piece, int point, int body, int axis) {
        Piece which = pieceWith(piece, point);
        Body who = bodyOf(body);
        if (which == null || who == null) return refuseApart(NOBODY);
        if (!isAxis(axis)) return refuseApart(OTHER);
        drawFor(who);
        if (!drawing.sound(which)) return refuseApart(BROKEN);
        return drawing.placeOf(which, point, axis);
    }

    public int length(int piece, int a, int b, int size, int day) {
        Piece which = pieceWith(piece, a);
        if (which == null || !which.has(b) || !isSize(size)) return refuse(NOBODY);
        int why = outside(day, 0, LAST_DAY);
        if (why != 0) return refuse(why);
        drawAt(size, day);
        if (!drawing.sound(which)) return refuse(BROKEN);
        return drawing.lengthOf(which, a, b);
    }

    public int lengthOn(int piece, int a, int b, int body) {
        Piece which = pieceWith(piece, a);
        Body who = bodyOf(body);
        if (which == null || !which.has(b) || who == null) return refuse(NOBODY);
        drawFor(who);
        if (!drawing.sound(which)) return refuse(BROKEN);
        return drawing.lengthOf(which, a, b);
    }

    public long area(int piece, int size, int day) {
        Piece which = pieceOf(piece);
        if (which == null || !isSize(size)) return refuse(NOBODY);
        int why = outside(day, 0, LAST_DAY);
        if (why != 0) return refuse(why);
        drawAt(size, day);
        if (!drawing.sound(which)) return refuse(BROKEN);
        return drawing.areaOf(which);
    }

    // ---- seams

    public int seam(int one, int a, int b, int other, int c, int e, int least, int most) {
        Piece first = pieceWith(one, a);
        Piece second = pieceWith(other, c);
        if (first == null || !first.has(b) || second == null || !second.has(e)) return refuse(NOBODY);
        int why = bothOutside(least, most, -MOST_MOVE, MOST_MOVE);
        if (why == BELOW || least > most) return refuse(BELOW);
        if (why != 0 || seamCount >= MOST_SEAMS) return refuse(ROOM);
        Seam sewn = new Seam(first, a, b, least, most);
        sewn.sewTo(second, c, e);
        seams[seamCount] = sewn;
        return seamCount++;
    }

    public int notch(int seam, int p, int q) {
        Seam which = seamOf(seam);
        if (which == null) return refuse(NOBODY);
        int why = bothOutside(p, q, 0, MOST_WAY);
        if (why != 0) return refuse(why);
        if (which.notches >= MOST_NOTCHES) return refuse(ROOM);
        return which.addNotch(p, q);
    }

    public int gather(int seam, int v) {
        Seam which = seamOf(seam);
        if (which == null) return refuse(NOBODY);
        int why = outside(v, 0, MOST_MOVE);
        if (why != 0) return refuse(why);
        int was = which.gathered;
        which.gathered = v;
        return was;
    }

    public int ease(int seam, int size, int day) {
        int why = seamRefused(seam, size, day);
        if (why != 0) return refuseApart(why);
        return seams[seam].easeDrawn();
    }

    public int meets(int seam, int size, int day) {
        int why = seamRefused(seam, size, day);
        if (why != 0) return refuse(why);
        return seams[seam].isMet() ? 1 : 0;
    }

    public int lost(int seam, int size, int day) {
        int why = seamRefused(seam, size, day);
        if (why != 0) return refuse(why);
        return seams[seam].firstLost();
    }

    public int wrong(int day) {
        int why = outside(day, 0, LAST_DAY);
        if (why != 0) return refuse(why);
        for (int size = 0; size < SIZES; size++) {
            drawAt(size, day);
            for (int s = 0; s < seamCount; s++) {
                if (isWrong(seams[s])) return SEAMS_A_SIZE * size + s;
            }
        }
        return NONE;
    }

    // ---- least moves

    public int condition(int c0, int c1, int c2, int c3, int c4, int c5, int sum) {
        int lowest = Math.min(Math.min(Math.min(c0, c1), Math.min(c2, c3)), Math.min(c4, c5));
        int highest = Math.max(Math.max(Math.max(c0, c1), Math.max(c2, c3)), Math.max(c4, c5));
        if (lowest < -MOST_COEFFICIENT || sum < -MOST_SUM) return refuse(BELOW);
        if (highest > MOST_COEFFICIENT || sum > MOST_SUM) return refuse(ROOM);
        if (conditions.number >= MOST_CONDITIONS) return refuse(ROOM);
        return conditions.add(c0, c1, c2, c3, c4, c5, sum);
    }

    public int free() {
        int was = conditions.number;
        conditions.number = 0;
        return was;
    }

    public long least(int i, int part) {
        if (i < 0 || i >= MOVES) return refuseApart(NOBODY);
        if (part < 0 || part > 1) return refuseApart(OTHER);
        if (!conditions.solve(i)) return refuseApart(STATE);
        return part == 0 ? conditions.above : conditions.below;
    }

    // ---- cloth and what is laid on it

    public int cloth(int what, int v) {
        if (what < 0 || what >= CLOTH_WHATS) return refuse(OTHER);
        int why = outside(v, CLOTH_LEAST[what], CLOTH_MOST[what]);
        if (why != 0) return refuse(why);
        int was = laying.cloth[what];
        laying.cloth[what] = v;
        return was;
    }

    public int cells(int piece, int size, int day) {
        Piece which = pieceOf(piece);
        if (which == null || !isSize(size)) return refuse(NOBODY);
        int why = outside(day, 0, LAST_DAY);
        if (why != 0) return refuse(why);
        drawAt(size, day);
        if (!drawing.sound(which)) return refuse(BROKEN);
        return shape.cover(drawing, which, laying.cloth[STEP]);
    }

    public int lays(int piece, int size) {
        Piece which = pieceOf(piece);
        if (which == null || !isSize(size)) return refuse(NOBODY);
        if (laying.number >= MOST_LAID) return refuse(ROOM);
        return laying.add(which, size);
    }

    public int clear() {
        int was = laying.number;
        laying.number = 0;
        return was;
    }

    public int shortest(int what) {
        if (what < 0 || what > 1) return refuse(OTHER);
        int why = layingRefused();
        if (why != 0) return refuse(why);
        return what == 0 ? laying.bestLong : laying.bound();
    }

    public int place(int i, int what) {
        if (what < 0 || what >= BYTES_EACH) return refuse(OTHER);
        int why = layingRefused();
        if (why != 0) return refuse(why);
        if (i < 0 || i >= laying.number) return refuse(NOBODY);
        return laying.bestPlaces[i * BYTES_EACH + what];
    }

    public int put(int v) {
        int why = outside(v, 0, COLUMNS - 1);
        if (why != 0) return refuse(why);
        if (laying.rowSize >= MOST_LAID * BYTES_EACH) return refuse(ROOM);
        laying.row[laying.rowSize] = v;
        laying.rowSize++;
        return laying.rowSize;
    }

    public int judge() {
        if (laying.number == 0 || laying.rowSize != laying.number * BYTES_EACH) return refuse(MISSING);
        if (!shapesStand()) return refuse(BROKEN);
        laying.rowSize = 0;
        return laying.judged();
    }

    public int cut(int v, int axis, boolean washed) {
        if (!isAxis(axis)) return refuseApart(OTHER);
        int why = outside(v, -MOST_WAY, MOST_WAY);
        if (why != 0) return refuseApart(why);
        int stays = 100 - laying.cloth[SHRINK + axis];
        if (stays < 1) return 0;
        int amount = (Math.abs(v) * 100 + stays - 1) / stays;
        int whole = v < 0 ? -amount : amount;
        return washed ? whole * stays / 100 : whole;
    }

    // ---- trials

    public int trial(int piece, int body, int a, int b, int v, int doubt) {
        Piece which = pieceWith(piece, a);
        Body who = bodyOf(body);
        if (which == null || !which.has(b) || who == null) return refuse(NOBODY);
        if (v < 0 || doubt < 0) return refuse(BELOW);
        if (v > MOST_WAY || doubt > MOST_MOVE || trialCount >= MOST_TRIALS) return refuse(ROOM);
        who.addTrial(trialKey(piece, a, b), v - doubt, v + doubt);
        trialCount++;
        return trialCount;
    }

    public int said(int piece, int body, int a, int b, int what) {
        Piece which = pieceWith(piece, a);
        Body who = bodyOf(body);
        if (which == null || !which.has(b) || who == null) return refuseApart(NOBODY);
        if (what < 0 || what > 2) return refuseApart(OTHER);
        int key = trialKey(piece, a, b);
        if (!who.hasTrial(key)) return refuseApart(MISSING);
        int least = who.leastSaid(key);
        int most = who.mostSaid(key);
        if (least > most) return refuseApart(STATE);
        if (what < 2) return what == 0 ? least : most;
        drawFor(who);
        if (!drawing.sound(which)) return refuseApart(BROKEN);
        int drawn = drawing.lengthOf(which, a, b);
        return drawn >= least && drawn <= most ? 1 : 0;
    }

    // ---- editions

    public int edition() {
        if (editionCount >= MOST_EDITIONS) return refuse(ROOM);
        editions[editionCount] = new Edition(today);
        return editionCount++;
    }

    public int holds(int piece, int size) {
        Edition latest = editionOf(editionCount - 1);
        if (latest == null) return refuse(MISSING);
        if (latest.day != today) return refuse(STATE);
        Piece which = pieceOf(piece);
        if (which == null || !isSize(size)) return refuse(NOBODY);
        drawAt(size, today);
        if (!drawing.sound(which)) return refuse(BROKEN);
        if (latest.held >= MOST_HELD) return refuse(ROOM);
        return latest.addPiece(which, size);
    }

    public int word(int edition, int i, int what, int n) {
        Edition which = editionOf(edition);
        if (which == null || i < 0 || i >= which.held) return refuse(NOBODY);
        if (what < 0 || what > 2) return refuse(OTHER);
        int why = outside(n, 0, MOST_WORD);
        if (why != 0) return refuse(why);
        if (which.words >= MOST_WORDS) return refuse(ROOM);
        return which.addWord(i, what, n);
    }

    public int firstWrong(int edition) {
        Edition which = editionOf(edition);
        if (which == null) return refuse(NOBODY);
        for (int w = 0; w < which.words; w++) {
            if (!agrees(which, w)) return w;
        }
        return NONE;
    }

    public int fault(int piece) {
        Piece which = pieceOf(piece);
        if (which == null) return refuse(NOBODY);
        int bits = 0;
        for (int k = 0; k < editionCount; k++) {
            if (editions[k].holdsFrom(which)) bits |= 1 << k;
        }
        return bits;
    }

    // ---- a season

    public int order(int size, int n) {
        if (size < 0 || size >= ORDERED_SIZES) return refuse(NOBODY);
        int why = outside(n, 0, MOST_ORDER);
        if (why != 0) return refuse(why);
        int was = plan.orders[size];
        plan.orders[size] = n;
        return was;
    }

    public int marker(int counts, int cloth) {
        if (counts < 1 || cloth < 1) return refuse(BELOW);
        if (counts > MOST_COUNTS || cloth > MOST_CLOTH) return refuse(ROOM);
        if (plan.markers >= MOST_MARKERS) return refuse(ROOM);
        return plan.add(counts, cloth);
    }

    public int season() {
        return plan.solve() ? plan.bestCloth : NONE;
    }

    public int often(int marker) {
        if (marker < 0 || marker >= plan.markers) return refuse(NOBODY);
        return plan.solve() ? plan.best[marker] : NONE;
    }

    public int count(int what) {
        switch (what) {
            case 0: return today;
            case 1: return bodyCount;
            case 2: return pieceCount;
            case 3: return ruleCount;
            case 4: return seamCount;
            case 5: return conditions.number;
            case 6: return laying.number;
            case 7: return trialCount;
            case 8: return editionCount;
            case 9: return text.size;
            default: return what >= 11 && what <= 17 ? refusals[what - 10] : NONE;
        }
    }

    // ---- what the calls share

    private int refuse(int why) {
        if (why >= BROKEN && why <= NOBODY) refusals[-why]++;
        return why;
    }

    private int refuseApart(int why) {
        return APART - refuse(why);
    }

    private static int outside(int v, int least, int most) {
        if (v < least) return BELOW;
        return v > most ? ROOM : 0;
    }

    private static int bothOutside(int v, int w, int least, int most) {
        if (Math.min(v, w) < least) return BELOW;
        return Math.max(v, w) > most ? ROOM : 0;
    }

    private static boolean isMeasure(int measure) {
        return measure >= 0 && measure < MEASURES;
    }

    private static boolean isSize(int size) {
        return size >= 0 && size < SIZES;
    }

    private static boolean isAxis(int axis) {
        return axis == 0 || axis == 1;
    }

    private Body bodyOf(int body) {
        return body >= 0 && body < bodyCount ? bodies[body] : null;
    }

    private Piece pieceOf(int piece) {
        return piece >= 0 && piece < pieceCount ? pieces[piece] : null;
    }

    private Piece pieceWith(int piece, int point) {
        Piece which = pieceOf(piece);
        return which != null && which.has(point) ? which : null;
    }

    private Seam seamOf(int seam) {
        return seam >= 0 && seam < seamCount ? seams[seam] : null;
    }

    private Edition editionOf(int edition) {
        return edition >= 0 && edition < editionCount ? editions[edition] : null;
    }

    private static int trialKey(int piece, int a, int b) {
        return (piece * MOST_POINTS + a) * MOST_POINTS + b;
    }

    private int numberOn(int measure, int size, int day) {
        for (Telling told = numbers[measure * SIZES + size]; told != null; told = told.ahead) {
            if (told.day <= day) return told.value;
        }
        return 0;
    }

    private int countsNow(Body who, int measure) {
        int told = who.told[measure];
        return told != Body.UNTOLD ? told : numberOn(measure, who.size, today);
    }

    private void drawAt(int size, int day) {
        drawing.begin(size, day, null);
        for (int m = 0; m < MEASURES; m++) {
            drawing.measures[m] = numberOn(m, size, day);
        }
    }

    private void drawFor(Body who) {
        drawing.begin(who.size, today, who);
        for (int m = 0; m < MEASURES; m++) {
            drawing.measures[m] = countsNow(who, m);
        }
    }

    /** 0 if both sides of the seam could be drawn and measured; else why not. */
    private int seamRefused(int seam, int size, int day) {
        Seam which = seamOf(seam);
        if (which == null || !isSize(size)) return NOBODY;
        int why = outside(day, 0, LAST_DAY);
        if (why != 0) return why;
        drawAt(size, day);
        return measureSides(which) ? 0 : BROKEN;
    }

    private boolean measureSides(Seam seam) {
        if (!drawing.sound(seam.one) || !drawing.sound(seam.other)) return false;
        seam.firstLength = drawing.lengthOf(seam.one, seam.a, seam.b);
        seam.secondLength = drawing.lengthOf(seam.other, seam.c, seam.e);
        return true;
    }

    private boolean isWrong(Seam seam) {
        return !measureSides(seam) || !seam.isMet() || seam.firstLost() != NONE;
    }

    /** Makes the shapes of all that is on the marker, as of now; false if one of them can't be laid. */
    private boolean shapesStand() {
        for (int i = 0; i < laying.number; i++) {
            Piece which = laying.pieces[i];
            drawAt(laying.sizes[i], today);
            if (!drawing.sound(which)) return false;
            if (laying.shapes[i].cover(drawing, which, laying.cloth[STEP]) == 0) return false;
        }
        return true;
    }

    /** 0 if the shortest laying was found; else why not. */
    private int layingRefused() {
        if (laying.number == 0) return MISSING;
        if (!shapesStand()) return BROKEN;
        return laying.findShortest() ? 0 : STATE;
    }

    private boolean agrees(Edition edition, int w) {
        int i = edition.wordOf[w];
        Piece which = edition.pieces[i];
        int says = edition.wordSays[w];
        if (edition.wordWhat[w] == 0) return which.points == says;
        drawAt(edition.sizes[i], edition.day);
        if (!drawing.sound(which)) return false;
        if (edition.wordWhat[w] == 1) return drawing.lengthOf(which, 0, 0) == says;
        return drawing.areaOf(which) == says;
    }

    /** The greatest whole number whose square is not above v (v is not below 0). */
    private static long rootOf(long v) {
        long root = 0;
        for (long bit = 1L << 30; bit > 0; bit >>= 1) {
            long more = root + bit;
            if (more * more <= v) root = more;
        }
        return root;
    }

    /** A number of the table from a day on, and what was told ahead of it. */
    private static final class Telling {
        private final int day;
        private int value;
        private final Telling ahead;

        Telling(int day, int value, Telling ahead) {
            this.day = day;
            this.value = value;
            this.ahead = ahead;
        }
    }

    /** A body: its size and all that is told for it alone. */
    private static final class Body {
        private static final int UNTOLD = -1;

        private final int size;
        private final int[] told = new int[MEASURES];
        private final int[] alteredKey = new int[MOST_ALTERED];
        private final int[] alteredX = new int[MOST_ALTERED];
        private final int[] alteredY = new int[MOST_ALTERED];
        private int altered;
        private final int[] trialKey = new int[MOST_TRIALS];
        private final int[] trialLeast = new int[MOST_TRIALS];
        private final int[] trialMost = new int[MOST_TRIALS];
        private int trials;

        Body(int size) {
            this.size = size;
            for (int m = 0; m < MEASURES; m++) {
                told[m] = UNTOLD;
            }
        }

        /** Where the moves of a point are kept; how many there are, if they are not. */
        private int alteredSpot(int piece, int point) {
            int key = piece * MOST_POINTS + point;
            for (int k = 0; k < altered; k++) {
                if (alteredKey[k] == key) return k;
            }
            return altered;
        }

        boolean isAltered(int piece, int point) {
            return alteredSpot(piece, point) < altered;
        }

        void setAltered(int piece, int point, int dx, int dy) {
            int spot = alteredSpot(piece, point);
            if (spot >= MOST_ALTERED) return;
            if (spot == altered) altered++;
            alteredKey[spot] = piece * MOST_POINTS + point;
            alteredX[spot] = dx;
            alteredY[spot] = dy;
        }

        int moveOf(int piece, int point, int axis) {
            int spot = alteredSpot(piece, point);
            if (spot >= altered) return 0;
            return axis == 0 ? alteredX[spot] : alteredY[spot];
        }

        void addTrial(int key, int least, int most) {
            if (trials >= MOST_TRIALS) return;
            trialKey[trials] = key;
            trialLeast[trials] = least;
            trialMost[trials] = most;
            trials++;
        }

        boolean hasTrial(int key) {
            for (int k = 0; k < trials; k++) {
                if (trialKey[k] == key) return true;
            }
            return false;
        }

        int leastSaid(int key) {
            int least = -MOST_WAY;
            for (int k = 0; k < trials; k++) {
                if (trialKey[k] == key) least = Math.max(least, trialLeast[k]);
            }
            return least;
        }

        int mostSaid(int key) {
            int most = 2 * MOST_WAY;
            for (int k = 0; k < trials; k++) {
                if (trialKey[k] == key) most = Math.min(most, trialMost[k]);
            }
            return most;
        }
    }

    /** A piece: what is told for its points and for the lines behind them. */
    private static final class Piece {
        private final int number;
        private final int kind;
        private final int points;
        private final Piece block;
        private boolean withdrawn;
        private final Rule[] rules;
        private final int[] gradeX;
        private final int[] gradeY;
        private final boolean[] curved;
        private final int[] kneeX;
        private final int[] kneeY;

        Piece(int number, int kind, int points, Piece block) {
            this.number = number;
            this.kind = kind;
            this.points = points;
            this.block = kind == BORROWED ? block : null;
            rules = new Rule[MOST_POINTS];
            gradeX = new int[MOST_POINTS];
            gradeY = new int[MOST_POINTS];
            curved = new boolean[MOST_POINTS];
            kneeX = new int[MOST_POINTS];
            kneeY = new int[MOST_POINTS];
        }

        boolean lends() {
            return kind == PLAIN || kind == BORROWED;
        }

        boolean has(int point) {
            return point >= 0 && point < points;
        }

        /** The chain begins with the rule told last, so of several from one day the first met stays. */
        Rule ruleOn(int point, int day) {
            Rule inForce = null;
            for (Rule rule = rules[point]; rule != null; rule = rule.ahead) {
                if (rule.from <= day && (inForce == null || rule.from > inForce.from)) inForce = rule;
            }
            return inForce;
        }

        int rulesAtOnce(int point, int day) {
            Rule inForce = ruleOn(point, day);
            if (inForce == null) return 0;
            int many = 0;
            for (Rule rule = rules[point]; rule != null; rule = rule.ahead) {
                if (rule.from == inForce.from) many++;
            }
            return many;
        }

        boolean isOrComesFrom(Piece other) {
            for (Piece piece = this; piece != null; piece = piece.block) {
                if (piece == other) return true;
            }
            return false;
        }
    }

    /** A rule: the code of X and of Y, operators behind what they take, and the rule told ahead of it. */
    private static final class Rule {
        private final int from;
        private final int[] codeX;
        private final int[] codeY;
        private final Rule ahead;

        Rule(int from, int[] codeX, int[] codeY, Rule ahead) {
            this.from = from;
            this.codeX = codeX;
            this.codeY = codeY;
            this.ahead = ahead;
        }
    }

    /** The text that is fed, and its reading into a rule's code. */
    private static final class RuleText {
        private static final int END = -1;
        private static final int NO_FAULT = -1;

        private final int[] bytes = new int[MOST_TEXT];
        private int size;
        private int fault;
        private int place;
        private int point;
        /** Each code comes from a byte of its own, so the code is never longer than the text. */
        private final int[] code = new int[MOST_TEXT];
        private int codes;
        private int codesOfX;

        void add(int value) {
            if (size >= MOST_TEXT) return;
            bytes[size] = value;
            size++;
        }

        /** Whether the text is a rule of that point; if not, fault is the place of the first wrong byte. */
        boolean reads(int rulesPoint) {
            fault = NO_FAULT;
            place = 0;
            point = rulesPoint;
            codes = 0;
            if (!readSum(0)) return false;
            if (next() != ',') return failHere();
            place++;
            codesOfX = codes;
            if (!readSum(0)) return false;
            return next() == END || failHere();
        }

        int[] codeOfX() {
            return Arrays.copyOfRange(code, 0, codesOfX);
        }

        int[] codeOfY() {
            return Arrays.copyOfRange(code, codesOfX, codes);
        }

        private int next() {
            return place < size ? bytes[place] : END;
        }

        private boolean failHere() {
            fault = place;
            return false;
        }

        private boolean emit(int value) {
            if (codes >= MOST_TEXT) return failHere();
            code[codes] = value;
            codes++;
            return true;
        }

        private boolean readSum(int depth) {
            boolean good = readTerm(depth);
            for (int k = 0; good && k < MOST_TEXT && (next() == '+' || next() == '-'); k++) {
                int operator = next() == '+' ? ADD : SUBTRACT;
                place++;
                good = readTerm(depth) && emit(operator);
            }
            return good;
        }

        private boolean readTerm(int depth) {
            boolean good = readUnit(depth);
            for (int k = 0; good && k < MOST_TEXT && (next() == '*' || next() == '/'); k++) {
                int operator = next() == '*' ? MULTIPLY : DIVIDE;
                place++;
                good = readUnit(depth) && emit(operator);
            }
            return good;
        }

        private boolean readUnit(int depth) {
            int sign = next();
            if (isDigit(sign)) return readNumber();
            if (sign >= 'a' && sign < 'a' + MEASURES) {
                place++;
                return emit(MEASURE_CODE + sign - 'a');
            }
            if (sign == 'x' || sign == 'y') {
                place++;
                return readPoint(sign == 'x' ? X_CODE : Y_CODE);
            }
            if (sign == 'r') {
                place++;
                return readBracket(depth) && emit(ROOT);
            }
            return readBracket(depth);
        }

        private boolean readNumber() {
            int number = 0;
            for (int k = 0; k < MOST_DIGITS && isDigit(next()); k++) {
                number = number * 10 + next() - '0';
                place++;
            }
            return emit(number);
        }

        private boolean readPoint(int axisCode) {
            int digit = next() - '0';
            if (digit < 0 || digit > 9 || digit >= point) return failHere();
            place++;
            return emit(axisCode + digit);
        }

        private boolean readBracket(int depth) {
            if (next() != '(' || depth >= MOST_BRACKETS) return failHere();
            place++;
            if (!readSum(depth + 1)) return false;
            if (next() != ')') return failHere();
            place++;
            return true;
        }

        private static boolean isDigit(int sign) {
            return sign >= '0' && sign <= '9';
        }
    }

    /**
     * Pieces drawn for one day at one size, or for one body. Each is drawn once when it is first asked
     * for, its blocks ahead of it; what is told later is seen from the next beginning on.
     */
    private static final class Drawing {
        private static final int NOT_YET = 0;
        private static final int IS_SOUND = 1;
        private static final int IS_BROKEN = 2;

        private int size;
        private int day;
        private Body body;
        private final int[] measures = new int[MEASURES];
        private final int[] states = new int[MOST_PIECES];
        private final int[] x = new int[MOST_PIECES * MOST_POINTS];
        private final int[] y = new int[MOST_PIECES * MOST_POINTS];
        /** Points of the piece at work, ahead of grading: references are to these. */
        private final int[] rawX = new int[MOST_POINTS];
        private final int[] rawY = new int[MOST_POINTS];
        private final Piece[] lineage = new Piece[MOST_PIECES];
        private final long[] stack = new long[MOST_TEXT];
        private final int[] named = new int[MOST_POINTS];
        /** The ends of all ways round the piece that was traced last, and where each point is of them. */
        private final int[] ringX = new int[MOST_POINTS * CURVE_STEPS];
        private final int[] ringY = new int[MOST_POINTS * CURVE_STEPS];
        private final int[] ringAt = new int[MOST_POINTS];
        private int ring;

        void begin(int ofSize, int onDay, Body who) {
            size = ofSize;
            day = onDay;
            body = who;
            Arrays.fill(states, NOT_YET);
        }

        boolean sound(Piece piece) {
            int deep = 0;
            Piece next = piece;
            while (next != null && deep < MOST_PIECES && states[next.number] == NOT_YET) {
                lineage[deep] = next;
                deep++;
                next = next.block;
            }
            for (int k = deep - 1; k >= 0; k--) {
                drawOne(lineage[k]);
            }
            return states[piece.number] == IS_SOUND;
        }

        int placeOf(Piece piece, int point, int axis) {
            int spot = piece.number * MOST_POINTS + point;
            return axis == 0 ? x[spot] : y[spot];
        }

        private void drawOne(Piece piece) {
            boolean good = true;
            for (int p = 0; good && p < piece.points; p++) {
                Rule rule = piece.ruleOn(p, day);
                good = rule != null ? takeFromRule(rule, p) : takeFromBlock(piece.block, p);
            }
            states[piece.number] = good ? IS_SOUND : IS_BROKEN;
            for (int p = 0; good && p < piece.points; p++) {
                int spot = piece.number * MOST_POINTS + p;
                int sizes = size - MIDDLE_SIZE;
                x[spot] = rawX[p] + piece.gradeX[p] * sizes;
                y[spot] = rawY[p] + piece.gradeY[p] * sizes;
                if (body != null) {
                    x[spot] += body.moveOf(piece.number, p, 0);
                    y[spot] += body.moveOf(piece.number, p, 1);
                }
            }
        }

        private boolean takeFromRule(Rule rule, int p) {
            long ofX = valueOf(rule.codeX);
            long ofY = valueOf(rule.codeY);
            if (ofX == NO_NUMBER || ofY == NO_NUMBER) return false;
            rawX[p] = (int) ofX;
            rawY[p] = (int) ofY;
            return true;
        }

        private boolean takeFromBlock(Piece block, int p) {
            if (block == null || !block.has(p) || states[block.number] != IS_SOUND) return false;
            rawX[p] = placeOf(block, p, 0);
            rawY[p] = placeOf(block, p, 1);
            return true;
        }

        private long valueOf(int[] code) {
            int top = 0;
            for (int k = 0; k < code.length; k++) {
                int takes = code[k] < ADD ? 0 : code[k] == ROOT ? 1 : 2;
                if (top < takes || top >= MOST_TEXT) return NO_NUMBER;
                long made;
                if (takes == 0) {
                    made = unitOf(code[k]);
                } else if (takes == 1) {
                    made = stack[top - 1] < 0 ? NO_NUMBER : rootOf(stack[top - 1]);
                } else {
                    made = combine(code[k], stack[top - 2], stack[top - 1]);
                }
                if (made < -MOST_NUMBER || made > MOST_NUMBER) return NO_NUMBER;
                top += 1 - takes;
                stack[top - 1] = made;
            }
            return top == 1 ? stack[0] : NO_NUMBER;
        }

        private long unitOf(int unit) {
            if (unit < MEASURE_CODE) return unit;
            if (unit < MEASURE_CODE + MEASURES) return measures[unit - MEASURE_CODE];
            int p = unit < Y_CODE ? unit - X_CODE : unit - Y_CODE;
            if (p < 0 || p >= MOST_POINTS) return NO_NUMBER;
            return unit < Y_CODE ? rawX[p] : rawY[p];
        }

        private static long combine(int operator, long v, long w) {
            switch (operator) {
                case ADD: return v + w;
                case SUBTRACT: return v - w;
                case MULTIPLY: return v * w;
                default: return w == 0 ? NO_NUMBER : v / w;
            }
        }

        int comesFrom(Piece piece, int point, int onDay) {
            int deep = 0;
            for (Piece next = piece; next != null && deep < MOST_PIECES; next = next.block) {
                lineage[deep] = next;
                deep++;
            }
            Arrays.fill(named, 0);
            for (int k = deep - 1; k >= 0; k--) {
                nameOne(lineage[k], onDay);
            }
            return named[point];
        }

        /** What a point without a rule had from the block stays as it is; points that it lacks have none. */
        private void nameOne(Piece piece, int onDay) {
            for (int p = 0; p < piece.points; p++) {
                Rule rule = piece.ruleOn(p, onDay);
                if (rule != null) named[p] = namedIn(rule.codeX) | namedIn(rule.codeY);
            }
            for (int p = piece.points; p < MOST_POINTS; p++) {
                named[p] = 0;
            }
        }

        private int namedIn(int[] code) {
            int bits = 0;
            for (int k = 0; k < code.length; k++) {
                int unit = code[k];
                int p = pointOf(unit);
                if (p >= 0) bits |= named[p];
                if (unit >= MEASURE_CODE && unit < MEASURE_CODE + MEASURES) bits |= 1 << (unit - MEASURE_CODE);
            }
            return bits;
        }

        /** The point that is named; -1 if none is. */
        private static int pointOf(int unit) {
            if (unit >= X_CODE && unit < X_CODE + MOST_POINTS) return unit - X_CODE;
            return unit >= Y_CODE && unit < Y_CODE + MOST_POINTS ? unit - Y_CODE : -1;
        }

        void trace(Piece piece) {
            ring = 0;
            for (int p = 0; p < piece.points; p++) {
                ringAt[p] = ring;
                int q = p + 1 < piece.points ? p + 1 : 0;
                int steps = piece.curved[p] ? CURVE_STEPS : 1;
                for (int t = 0; t < steps; t++) {
                    ringX[ring] = onLine(t, placeOf(piece, p, 0), placeOf(piece, q, 0), piece.kneeX[p]);
                    ringY[ring] = onLine(t, placeOf(piece, p, 1), placeOf(piece, q, 1), piece.kneeY[p]);
                    ring++;
                }
            }
        }

        /** At step 0 it is the line's first point, so this serves a straight line's one way, too. */
        private static int onLine(int t, int first, int second, int knee) {
            int rest = CURVE_STEPS - t;
            int middle = Math.floorDiv(first + second, 2) + knee;
            return Math.floorDiv(rest * rest * first + 2 * t * rest * middle + t * t * second,
                CURVE_STEPS * CURVE_STEPS);
        }

        int lengthOf(Piece piece, int a, int b) {
            trace(piece);
            int ways = ringAt[b] - ringAt[a];
            if (ways <= 0) ways += ring;
            long sum = 0;
            int way = ringAt[a];
            for (int k = 0; k < ways; k++) {
                int end = way + 1 < ring ? way + 1 : 0;
                long dx = ringX[end] - ringX[way];
                long dy = ringY[end] - ringY[way];
                sum += rootOf(dx * dx + dy * dy);
                way = end;
            }
            return (int) sum;
        }

        long areaOf(Piece piece) {
            trace(piece);
            long sum = 0;
            for (int way = 0; way < ring; way++) {
                int end = way + 1 < ring ? way + 1 : 0;
                sum += (long) ringX[way] * ringY[end] - (long) ringX[end] * ringY[way];
            }
            long amount = Math.abs(sum);
            return piece.kind == FOLDED || piece.kind == PAIRED ? 2 * amount : amount;
        }
    }

    /** A seam; its lengths are those of the drawing it was measured on last. */
    private static final class Seam {
        private final Piece one;
        private final int a;
        private final int b;
        private final int least;
        private final int most;
        private Piece other;
        private int c;
        private int e;
        private int gathered;
        private final int[] notchP = new int[MOST_NOTCHES];
        private final int[] notchQ = new int[MOST_NOTCHES];
        private int notches;
        private int firstLength;
        private int secondLength;

        Seam(Piece one, int a, int b, int least, int most) {
            this.one = one;
            this.a = a;
            this.b = b;
            this.least = least;
            this.most = most;
            this.other = one;
        }

        void sewTo(Piece piece, int from, int to) {
            other = piece;
            c = from;
            e = to;
        }

        int addNotch(int p, int q) {
            if (notches >= MOST_NOTCHES) return notches;
            notchP[notches] = p;
            notchQ[notches] = q;
            notches++;
            return notches;
        }

        int easeDrawn() {
            return secondLength - firstLength;
        }

        boolean isMet() {
            return easeDrawn() >= least && easeDrawn() <= most;
        }

        int firstLost() {
            for (int k = 0; k < notches; k++) {
                if (!isWell(k)) return k;
            }
            return NONE;
        }

        private boolean isWell(int k) {
            if (notchP[k] > firstLength || notchQ[k] > secondLength) return false;
            int wayP = notchP[k];
            int wayQ = notchQ[k];
            if (k > 0) {
                wayP -= notchP[k - 1];
                wayQ -= notchQ[k - 1];
                if (wayP <= 0 || wayQ <= 0) return false;
            }
            int longer = wayQ - wayP;
            return longer >= 0 && longer <= gathered;
        }
    }

    /** Conditions on moves; the least moves are made of their rows, by the products of these. */
    private static final class Conditions {
        private final int[] rows = new int[MOST_CONDITIONS * MOVES];
        private final int[] sums = new int[MOST_CONDITIONS];
        private int number;
        private long above;
        private long below;

        int add(int c0, int c1, int c2, int c3, int c4, int c5, int sum) {
            if (number >= MOST_CONDITIONS) return number;
            int row = number * MOVES;
            rows[row] = c0;
            rows[row + 1] = c1;
            rows[row + 2] = c2;
            rows[row + 3] = c3;
            rows[row + 4] = c4;
            rows[row + 5] = c5;
            sums[number] = sum;
            number++;
            return number;
        }

        /** Finds the move i as above by below; false if the conditions bar one another. */
        boolean solve(int i) {
            above = 0;
            below = 1;
            if (number == 0) return true;
            if (number == 1) return solveOne(0, i);
            long ff = product(0, 0);
            long fs = product(0, 1);
            long ss = product(1, 1);
            long both = ff * ss - fs * fs;
            if (both == 0) return agree(ff, ss) && solveOne(ff != 0 ? 0 : 1, i);
            long first = ss * sums[0] - fs * sums[1];
            long second = ff * sums[1] - fs * sums[0];
            setFraction(rows[i] * first + rows[MOVES + i] * second, both);
            return true;
        }

        private boolean solveOne(int row, int i) {
            long square = product(row, row);
            if (square == 0) return sums[row] == 0;
            setFraction((long) rows[row * MOVES + i] * sums[row], square);
            return true;
        }

        /** Of rows that are multiples of one another, or nothing: whether their sums are so, too. */
        private boolean agree(long ff, long ss) {
            if (ff == 0 && sums[0] != 0 || ss == 0 && sums[1] != 0) return false;
            for (int i = 0; i < MOVES; i++) {
                if (rows[i] * sums[1] != rows[MOVES + i] * sums[0]) return false;
            }
            return true;
        }

        private long product(int row, int other) {
            long sum = 0;
            for (int i = 0; i < MOVES; i++) {
                sum += rows[row * MOVES + i] * rows[other * MOVES + i];
            }
            return sum;
        }

        private void setFraction(long top, long bottom) {
            long divisor = bottom;
            long rest = Math.abs(top);
            for (int k = 0; k < 128 && rest != 0; k++) {
                long next = divisor % rest;
                divisor = rest;
                rest = next;
            }
            if (divisor == 0) return;
            above = top / divisor;
            below = bottom / divisor;
        }
    }

    /** The cells of a piece: for each column the rows as bits, as it is and turned half round. */
    private static final class Shape {
        private final int[] columns = new int[SPAN];
        private final int[] turned = new int[SPAN];
        private int wide;
        private int high;
        private int cells;
        private int leastX;
        private int leastY;

        /** Makes the cells of a sound piece: how many; 0 if it can't be laid. */
        int cover(Drawing drawing, Piece piece, int step) {
            Arrays.fill(columns, 0);
            cells = 0;
            drawing.trace(piece);
            if (!spans(drawing, piece, step)) return 0;
            boolean folded = piece.kind == FOLDED;
            int fold = 2 * drawing.ringX[0];
            for (int way = 0; way < drawing.ring; way++) {
                int end = way + 1 < drawing.ring ? way + 1 : 0;
                int y = 2 * (drawing.ringY[way] - leastY);
                int v = 2 * (drawing.ringY[end] - leastY);
                int x = drawing.ringX[way];
                int u = drawing.ringX[end];
                cross(2 * (x - leastX), y, 2 * (u - leastX), v, step);
                if (folded) cross(2 * (fold - x - leastX), y, 2 * (fold - u - leastX), v, step);
            }
            moveHome();
            turn();
            return cells;
        }

        private boolean spans(Drawing drawing, Piece piece, int step) {
            leastX = drawing.ringX[0];
            leastY = drawing.ringY[0];
            int mostX = leastX;
            int mostY = leastY;
            for (int k = 1; k < drawing.ring; k++) {
                leastX = Math.min(leastX, drawing.ringX[k]);
                leastY = Math.min(leastY, drawing.ringY[k]);
                mostX = Math.max(mostX, drawing.ringX[k]);
                mostY = Math.max(mostY, drawing.ringY[k]);
            }
            if (piece.kind == FOLDED) {
                int fold = 2 * drawing.ringX[0];
                int turnedLeast = fold - mostX;
                mostX = Math.max(mostX, fold - leastX);
                leastX = Math.min(leastX, turnedLeast);
            }
            return mostX - leastX <= SPAN * step && mostY - leastY <= SPAN * step;
        }

        /** Turns over, in each row that the way (x, y) to (u, v) crosses, the cells ahead of the crossing. */
        private void cross(int x, int y, int u, int v, int step) {
            for (int j = 0; j < SPAN; j++) {
                int middleY = (2 * j + 1) * step;
                if (y > middleY == v > middleY) continue;
                long reach = (long) (u - x) * (middleY - y);
                for (int i = 0; i < SPAN; i++) {
                    long needed = (long) ((2 * i + 1) * step - x) * (v - y);
                    boolean greater = v > y ? reach > needed : reach < needed;
                    if (!greater) break;
                    columns[i] ^= 1 << j;
                }
            }
        }

        private void moveHome() {
            int first = SPAN;
            int last = -1;
            int rows = 0;
            for (int i = 0; i < SPAN; i++) {
                if (columns[i] == 0) continue;
                first = Math.min(first, i);
                last = i;
                rows |= columns[i];
                cells += Integer.bitCount(columns[i]);
            }
            wide = Math.max(0, last - first + 1);
            int low = 0;
            while (low < SPAN && (rows >> low & 1) == 0) low++;
            high = 0;
            for (int j = low; j < SPAN; j++) {
                if ((rows >> j & 1) != 0) high = j - low + 1;
            }
            for (int i = 0; i < SPAN; i++) {
                columns[i] = i < wide ? columns[i + first] >> low : 0;
            }
        }

        private void turn() {
            Arrays.fill(turned, 0);
            for (int i = 0; i < wide; i++) {
                int rows = columns[wide - 1 - i];
                for (int j = 0; j < high; j++) {
                    if ((rows >> j & 1) != 0) turned[i] |= 1 << (high - 1 - j);
                }
            }
        }
    }

    /** Cloth, what is on the marker, the shortest laying of it, and the row that is judged. */
    private static final class Laying {
        private static final int NO_LONG = COLUMNS + 1;

        private final int[] cloth = CLOTH_AT_FIRST.clone();
        private final Piece[] pieces = new Piece[MOST_LAID];
        private final int[] sizes = new int[MOST_LAID];
        private final Shape[] shapes = new Shape[MOST_LAID];
        private int number;
        private final int[] taken = new int[COLUMNS];
        private final int[] column = new int[MOST_LAID];
        private final int[] across = new int[MOST_LAID];
        private final int[] turn = new int[MOST_LAID];
        private final int[] bestPlaces = new int[MOST_LAID * BYTES_EACH];
        private int bestLong;
        private final int[] row = new int[MOST_LAID * BYTES_EACH];
        private int rowSize;

        Laying() {
            for (int i = 0; i < MOST_LAID; i++) {
                shapes[i] = new Shape();
            }
        }

        int add(Piece piece, int size) {
            if (number >= MOST_LAID) return number;
            pieces[number] = piece;
            sizes[number] = size;
            number++;
            return number;
        }

        int bound() {
            int width = Math.max(1, cloth[WIDTH]);
            int all = 0;
            for (int i = 0; i < number; i++) {
                all += shapes[i].cells;
            }
            return (all + width - 1) / width;
        }

        boolean findShortest() {
            Arrays.fill(taken, 0);
            bestLong = NO_LONG;
            layNext(0, 0, 0);
            return bestLong < NO_LONG;
        }

        /** Goes through all orders by their numbers; a laying that is no shorter than the best is left. */
        private void layNext(int laid, int used, int reach) {
            if (reach >= bestLong) return;
            if (laid >= number) {
                keepBest(reach);
                return;
            }
            for (int i = 0; i < number; i++) {
                if ((used >> i & 1) != 0 || !findPlace(i)) continue;
                flip(i);
                layNext(laid + 1, used | 1 << i, Math.max(reach, column[i] + shapes[i].wide));
                flip(i);
            }
        }

        private void keepBest(int reach) {
            bestLong = reach;
            for (int i = 0; i < number; i++) {
                bestPlaces[i * BYTES_EACH] = column[i];
                bestPlaces[i * BYTES_EACH + 1] = across[i];
                bestPlaces[i * BYTES_EACH + 2] = turn[i];
            }
        }

        private boolean findPlace(int i) {
            int turns = cloth[ONE_WAY] == 1 ? 1 : 2;
            int stride = Math.max(1, cloth[STRIPE]);
            for (int c = 0; c + shapes[i].wide <= COLUMNS; c += stride) {
                for (int r = 0; r + shapes[i].high <= cloth[WIDTH]; r++) {
                    for (int t = 0; t < turns; t++) {
                        column[i] = c;
                        across[i] = r;
                        turn[i] = t;
                        if (isFree(i)) return true;
                    }
                }
            }
            return false;
        }

        private int[] cellsOf(int i) {
            return turn[i] == 0 ? shapes[i].columns : shapes[i].turned;
        }

        /** Its place is on the cloth already; whether none of its cells is another one's. */
        private boolean isFree(int i) {
            int[] its = cellsOf(i);
            for (int k = 0; k < shapes[i].wide; k++) {
                if ((its[k] << across[i] & taken[column[i] + k]) != 0) return false;
            }
            return true;
        }

        private void flip(int i) {
            int[] its = cellsOf(i);
            for (int k = 0; k < shapes[i].wide; k++) {
                taken[column[i] + k] ^= its[k] << across[i];
            }
        }

        /** How long the row's laying is, or which is the first that does not lie well. */
        int judged() {
            Arrays.fill(taken, 0);
            int reach = 0;
            for (int i = 0; i < number; i++) {
                column[i] = row[i * BYTES_EACH];
                across[i] = row[i * BYTES_EACH + 1];
                turn[i] = row[i * BYTES_EACH + 2];
                if (!liesWell(i)) return NO_LAYING - i;
                flip(i);
                reach = Math.max(reach, column[i] + shapes[i].wide);
            }
            return reach;
        }

        private boolean liesWell(int i) {
            if (turn[i] > 1 || turn[i] == 1 && cloth[ONE_WAY] == 1) return false;
            if (column[i] + shapes[i].wide > COLUMNS) return false;
            if (across[i] + shapes[i].high > cloth[WIDTH]) return false;
            if (column[i] % Math.max(1, cloth[STRIPE]) != 0) return false;
            return isFree(i);
        }
    }

    /** An edition: pieces at sizes as of its day, and the words that are said of them. */
    private static final class Edition {
        private final int day;
        private final Piece[] pieces = new Piece[MOST_HELD];
        private final int[] sizes = new int[MOST_HELD];
        private int held;
        private final int[] wordOf = new int[MOST_WORDS];
        private final int[] wordWhat = new int[MOST_WORDS];
        private final int[] wordSays = new int[MOST_WORDS];
        private int words;

        Edition(int day) {
            this.day = day;
        }

        int addPiece(Piece piece, int size) {
            if (held >= MOST_HELD) return held;
            pieces[held] = piece;
            sizes[held] = size;
            held++;
            return held;
        }

        int addWord(int i, int what, int n) {
            if (words >= MOST_WORDS) return words;
            wordOf[words] = i;
            wordWhat[words] = what;
            wordSays[words] = n;
            words++;
            return words;
        }

        boolean holdsFrom(Piece piece) {
            for (int i = 0; i < held; i++) {
                if (pieces[i].isOrComesFrom(piece)) return true;
            }
            return false;
        }
    }

    /** A season: orders, markers, and how often each is cut for the least cloth. */
    private static final class Season {
        /** Above all that markers can take, so that it bars a way by itself. */
        private static final int NO_CLOTH = 1000000000;

        private final int[] orders = new int[ORDERED_SIZES];
        private final int[] counts = new int[MOST_MARKERS * ORDERED_SIZES];
        private final int[] cloths = new int[MOST_MARKERS];
        private int markers;
        private final int[] lacks = new int[ORDERED_SIZES];
        private final int[] tried = new int[MOST_MARKERS];
        private final int[] best = new int[MOST_MARKERS];
        private int bestCloth;

        int add(int digits, int takes) {
            if (markers >= MOST_MARKERS) return markers;
            int rest = digits;
            for (int s = 0; s < ORDERED_SIZES; s++) {
                counts[markers * ORDERED_SIZES + s] = rest % 10;
                rest /= 10;
            }
            cloths[markers] = takes;
            return markers++;
        }

        boolean solve() {
            bestCloth = NO_CLOTH;
            System.arraycopy(orders, 0, lacks, 0, ORDERED_SIZES);
            tryMarker(0, 0);
            return bestCloth < NO_CLOTH;
        }

        /** Goes through how often by less first, so only what takes less than the best is better. */
        private void tryMarker(int k, int spent) {
            if (spent + leastMore(k) >= bestCloth) return;
            if (k >= markers) {
                bestCloth = spent;
                System.arraycopy(tried, 0, best, 0, MOST_MARKERS);
                return;
            }
            for (int n = 0; n <= MOST_CUTS; n++) {
                tried[k] = n;
                tryMarker(k + 1, spent + n * cloths[k]);
                changeLacks(k, -1);
            }
            changeLacks(k, MOST_CUTS + 1);
        }

        private void changeLacks(int k, int times) {
            for (int s = 0; s < ORDERED_SIZES; s++) {
                lacks[s] += times * counts[k * ORDERED_SIZES + s];
            }
        }

        /** Cloth that markers from k on take at least for what is lacking; no cloth if they can't make it. */
        private int leastMore(int k) {
            int most = 0;
            for (int s = 0; s < ORDERED_SIZES; s++) {
                if (lacks[s] > 0) most = Math.max(most, leastFor(s, k));
            }
            return most;
        }

        /** No marker makes one of the size for less than the cheapest does, if all it cuts is counted. */
        private int leastFor(int s, int k) {
            int cheapest = NO_CLOTH;
            int made = 0;
            for (int m = k; m < markers; m++) {
                int each = counts[m * ORDERED_SIZES + s];
                if (each == 0) continue;
                made += each * MOST_CUTS;
                cheapest = Math.min(cheapest, (lacks[s] * cloths[m] + each - 1) / each);
            }
            return made < lacks[s] ? NO_CLOTH : cheapest;
        }
    }
}
