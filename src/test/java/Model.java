import java.math.BigInteger;
import java.util.ArrayList;
import java.util.Arrays;
import java.util.List;
import java.util.TreeMap;

/**
 * The document once more, by the plainest ways and with the whole library: texts are read anew for every
 * number, cells are asked one by one, orders and seasons are gone through without leaving any out.
 */
final class Model {
    static final class Broken extends Exception {
        private static final long serialVersionUID = 1;
    }

    static final class Refused extends Exception {
        private static final long serialVersionUID = 1;
        final int why;

        Refused(int why) {
            this.why = why;
        }
    }

    record RuleTold(int piece, int point, int from, String text) {
    }

    record Spot(int x, int y) {
    }

    record Way(Spot from, Spot to) {
    }

    record Cell(int i, int j) {
    }

    record Trial(int piece, int body, int a, int b, int v, int doubt) {
    }

    record Held(int piece, int size) {
    }

    record Word(int i, int what, int n) {
    }

    record Sewn(int one, int a, int b, int other, int c, int e, int least, int most, List<int[]> notches, int[] gather) {
    }

    record Printed(int day, List<Held> held, List<Word> words) {
    }

    int day = 0;
    final int[] refusals = new int[8];
    final List<int[]> tellings = new ArrayList<>();
    final List<Integer> bodySizes = new ArrayList<>();
    final List<int[]> bodyTold = new ArrayList<>();
    final List<int[]> pieces = new ArrayList<>();
    final List<Integer> withdrawn = new ArrayList<>();
    String text = "";
    final List<RuleTold> rules = new ArrayList<>();
    final TreeMap<String, int[]> grades = new TreeMap<>();
    final TreeMap<String, int[]> alters = new TreeMap<>();
    final TreeMap<String, int[]> knees = new TreeMap<>();
    final List<Sewn> seams = new ArrayList<>();
    final List<int[]> conditions = new ArrayList<>();
    final int[] cloth = {12, 10, 0, 0, 0, 0};
    final List<Held> marker = new ArrayList<>();
    final List<Integer> row = new ArrayList<>();
    final List<Trial> trials = new ArrayList<>();
    final List<Printed> editions = new ArrayList<>();
    final int[] orders = new int[5];
    final List<int[]> markers = new ArrayList<>();

    // ---- refusals

    private static void unless(boolean good, int why) throws Refused {
        if (!good) throw new Refused(why);
    }

    private static void within(int v, int least, int most) throws Refused {
        unless(v >= least, -4);
        unless(v <= most, -6);
    }

    private static void within(int v, int w, int least, int most) throws Refused {
        unless(v >= least && w >= least, -4);
        unless(v <= most && w <= most, -6);
    }

    private boolean piecePoint(int piece, int point) {
        return piece >= 0 && piece < pieces.size() && point >= 0 && point < pieces.get(piece)[1];
    }

    private static boolean among(int v, int many) {
        return v >= 0 && v < many;
    }

    /** Does a call by its name; refusals are counted and told as the document tells them for it. */
    long call(String name, long... a) {
        boolean apart = List.of("measure", "at", "on", "ease", "least", "cut", "said").contains(name);
        try {
            return answer(name, a);
        } catch (Refused refused) {
            refusals[-refused.why]++;
            return apart ? 1000000000L - refused.why : refused.why;
        } catch (Broken broken) {
            refusals[7]++;
            return apart ? 1000000007L : -7;
        }
    }

    private long answer(String name, long[] g) throws Refused, Broken {
        int[] a = new int[g.length];
        for (int k = 0; k < g.length; k++) a[k] = (int) g[k];
        switch (name) {
            case "days":
                unless(a[0] >= 1, -4);
                unless((long) a[0] + day <= 1000, -6);
                return day += a[0];
            case "table": {
                unless(among(a[0], 8) && among(a[1], 11), -1);
                within(a[2], 0, 9999);
                int was = tableOn(a[0], a[1], day);
                tellings.add(new int[] {a[0], a[1], day, a[2]});
                return was;
            }
            case "tabled":
                unless(among(a[0], 8) && among(a[1], 11), -1);
                within(a[2], 0, 1000);
                return tableOn(a[0], a[1], a[2]);
            case "body":
                unless(among(a[0], 11), -1);
                unless(bodySizes.size() < 12, -6);
                bodySizes.add(a[0]);
                bodyTold.add(new int[] {-1, -1, -1, -1, -1, -1, -1, -1});
                return bodySizes.size() - 1;
            case "measure": {
                unless(among(a[0], bodySizes.size()) && among(a[1], 8), -1);
                within(a[2], -1, 9999);
                int was = bodyTold.get(a[0])[a[1]];
                bodyTold.get(a[0])[a[1]] = a[2];
                return was;
            }
            case "measured":
                unless(among(a[0], bodySizes.size()) && among(a[1], 8), -1);
                return bodyMeasure(a[0], a[1]);
            case "piece":
                return piece(a[0], a[1], a[2]);
            case "withdraw":
                unless(among(a[0], pieces.size()), -1);
                unless(!withdrawn.contains(a[0]), -3);
                withdrawn.add(a[0]);
                return 1;
            case "feed": {
                within(a[0], 1, 8);
                unless(text.length() + a[0] <= 60, -6);
                long bytes = g[1];
                for (int k = 0; k < a[0]; k++) {
                    text += (char) (bytes & 255);
                    bytes >>= 8;
                }
                return text.length();
            }
            case "rule":
                return rule(a[0], a[1], a[2]);
            case "quarrel": {
                unless(piecePoint(a[0], a[1]), -1);
                within(a[2], 0, 1000);
                RuleTold inForce = ruleOn(a[0], a[1], a[2]);
                int many = 0;
                for (RuleTold r : rules) {
                    if (inForce != null && r.piece == a[0] && r.point == a[1] && r.from == inForce.from) many++;
                }
                return many;
            }
            case "from":
                unless(piecePoint(a[0], a[1]), -1);
                within(a[2], 0, 1000);
                return comesFrom(a[0], a[1], a[2]);
            case "grade":
                unless(piecePoint(a[0], a[1]), -1);
                within(a[2], a[3], -99, 99);
                grades.put(a[0] + "." + a[1], new int[] {a[2], a[3]});
                return 1;
            case "alter": {
                unless(piecePoint(a[0], a[1]) && among(a[2], bodySizes.size()), -1);
                within(a[3], a[4], -999, 999);
                String key = a[0] + "." + a[1] + "." + a[2];
                unless(alters.containsKey(key) || alters.size() < 40, -6);
                alters.put(key, new int[] {a[3], a[4]});
                return 1;
            }
            case "curve":
                unless(piecePoint(a[0], a[1]), -1);
                within(a[2], a[3], -999, 999);
                knees.put(a[0] + "." + a[1], new int[] {a[2], a[3]});
                return 1;
            case "straight":
                unless(piecePoint(a[0], a[1]), -1);
                return knees.remove(a[0] + "." + a[1]) == null ? 0 : 1;
            default:
                return answerDrawn(name, a);
        }
    }

    private long answerDrawn(String name, int[] a) throws Refused, Broken {
        switch (name) {
            case "at":
                unless(piecePoint(a[0], a[1]) && among(a[2], 11), -1);
                unless(among(a[4], 2), -2);
                within(a[3], 0, 1000);
                return axis(drawn(a[0], a[2], a[3], -1)[a[1]], a[4]);
            case "on":
                unless(piecePoint(a[0], a[1]) && among(a[2], bodySizes.size()), -1);
                unless(among(a[3], 2), -2);
                return axis(drawn(a[0], bodySizes.get(a[2]), day, a[2])[a[1]], a[3]);
            case "length":
                unless(piecePoint(a[0], a[1]) && piecePoint(a[0], a[2]) && among(a[3], 11), -1);
                within(a[4], 0, 1000);
                return lengthOf(a[0], a[1], a[2], drawn(a[0], a[3], a[4], -1));
            case "lengthOn":
                unless(piecePoint(a[0], a[1]) && piecePoint(a[0], a[2]) && among(a[3], bodySizes.size()), -1);
                return lengthOf(a[0], a[1], a[2], drawn(a[0], bodySizes.get(a[3]), day, a[3]));
            case "area":
                unless(piecePoint(a[0], 0) && among(a[1], 11), -1);
                within(a[2], 0, 1000);
                return areaOf(a[0], a[1], a[2]);
            case "seam":
                unless(piecePoint(a[0], a[1]) && piecePoint(a[0], a[2]), -1);
                unless(piecePoint(a[3], a[4]) && piecePoint(a[3], a[5]), -1);
                unless(a[6] >= -999 && a[7] >= -999 && a[6] <= a[7], -4);
                unless(a[6] <= 999 && a[7] <= 999 && seams.size() < 20, -6);
                seams.add(new Sewn(a[0], a[1], a[2], a[3], a[4], a[5], a[6], a[7], new ArrayList<>(), new int[1]));
                return seams.size() - 1;
            case "notch":
                unless(among(a[0], seams.size()), -1);
                within(a[1], a[2], 0, 99999);
                unless(seams.get(a[0]).notches.size() < 6, -6);
                seams.get(a[0]).notches.add(new int[] {a[1], a[2]});
                return seams.get(a[0]).notches.size();
            case "gather": {
                unless(among(a[0], seams.size()), -1);
                within(a[1], 0, 999);
                int was = seams.get(a[0]).gather[0];
                seams.get(a[0]).gather[0] = a[1];
                return was;
            }
            case "ease":
            case "meets":
            case "lost": {
                unless(among(a[0], seams.size()) && among(a[1], 11), -1);
                within(a[2], 0, 1000);
                int[] ways = sides(seams.get(a[0]), a[1], a[2]);
                if (name.equals("ease")) return ways[1] - ways[0];
                if (name.equals("meets")) return meets(seams.get(a[0]), ways) ? 1 : 0;
                return lost(seams.get(a[0]), ways);
            }
            case "wrong":
                within(a[0], 0, 1000);
                return firstWrongSeam(a[0]);
            default:
                return answerCloth(name, a);
        }
    }

    private long answerCloth(String name, int[] a) throws Refused, Broken {
        switch (name) {
            case "condition":
                for (int k = 0; k < 7; k++) unless(a[k] >= (k < 6 ? -99 : -9999), -4);
                for (int k = 0; k < 7; k++) unless(a[k] <= (k < 6 ? 99 : 9999), -6);
                unless(conditions.size() < 2, -6);
                conditions.add(a);
                return conditions.size();
            case "free": {
                int was = conditions.size();
                conditions.clear();
                return was;
            }
            case "least": {
                unless(among(a[0], 6), -1);
                unless(among(a[1], 2), -2);
                BigInteger[][] moves = leastMoves();
                unless(moves != null, -3);
                return moves[a[0]][a[1]].longValueExact();
            }
            case "cloth": {
                unless(among(a[0], 6), -2);
                within(a[1], a[0] < 2 ? 1 : 0, new int[] {24, 500, 1, 12, 50, 50}[a[0]]);
                int was = cloth[a[0]];
                cloth[a[0]] = a[1];
                return was;
            }
            case "cells":
                unless(piecePoint(a[0], 0) && among(a[1], 11), -1);
                within(a[2], 0, 1000);
                return cellsOf(a[0], a[1], a[2]).size();
            case "lays":
                unless(piecePoint(a[0], 0) && among(a[1], 11), -1);
                unless(marker.size() < 4, -6);
                marker.add(new Held(a[0], a[1]));
                return marker.size();
            case "clear": {
                int was = marker.size();
                marker.clear();
                return was;
            }
            case "shortest": {
                unless(among(a[0], 2), -2);
                int[][] best = shortest();
                int all = 0;
                for (Held held : marker) all += cellsOf(held.piece, held.size, day).size();
                return a[0] == 0 ? best[marker.size()][0] : (all + cloth[0] - 1) / cloth[0];
            }
            case "place": {
                unless(among(a[1], 3), -2);
                int[][] best = shortest();
                unless(among(a[0], marker.size()), -1);
                return best[a[0]][a[1]];
            }
            case "put":
                within(a[0], 0, 95);
                unless(row.size() < 12, -6);
                row.add(a[0]);
                return row.size();
            case "judge":
                return judge();
            case "cut": {
                unless(among(a[1], 2), -2);
                within(a[0], -99999, 99999);
                return cut(a[0], 100 - cloth[4 + a[1]], a[2] != 0);
            }
            default:
                return answerRest(name, a);
        }
    }

    private long answerRest(String name, int[] a) throws Refused, Broken {
        switch (name) {
            case "trial":
                unless(piecePoint(a[0], a[2]) && piecePoint(a[0], a[3]) && among(a[1], bodySizes.size()), -1);
                unless(a[4] >= 0 && a[5] >= 0, -4);
                unless(a[4] <= 99999 && a[5] <= 999 && trials.size() < 30, -6);
                trials.add(new Trial(a[0], a[1], a[2], a[3], a[4], a[5]));
                return trials.size();
            case "said":
                return said(a[0], a[1], a[2], a[3], a[4]);
            case "edition":
                unless(editions.size() < 12, -6);
                editions.add(new Printed(day, new ArrayList<>(), new ArrayList<>()));
                return editions.size() - 1;
            case "holds": {
                unless(!editions.isEmpty(), -5);
                Printed latest = editions.get(editions.size() - 1);
                unless(latest.day == day, -3);
                unless(piecePoint(a[0], 0) && among(a[1], 11), -1);
                drawn(a[0], a[1], day, -1);
                unless(latest.held.size() < 8, -6);
                latest.held.add(new Held(a[0], a[1]));
                return latest.held.size();
            }
            case "word": {
                unless(among(a[0], editions.size()), -1);
                Printed which = editions.get(a[0]);
                unless(among(a[1], which.held.size()), -1);
                unless(among(a[2], 3), -2);
                within(a[3], 0, 1000000000);
                unless(which.words.size() < 12, -6);
                which.words.add(new Word(a[1], a[2], a[3]));
                return which.words.size();
            }
            case "firstWrong": {
                unless(among(a[0], editions.size()), -1);
                Printed which = editions.get(a[0]);
                for (int w = 0; w < which.words.size(); w++) {
                    if (!agrees(which, which.words.get(w))) return w;
                }
                return -9;
            }
            case "fault": {
                unless(piecePoint(a[0], 0), -1);
                int bits = 0;
                for (int k = 0; k < editions.size(); k++) {
                    for (Held held : editions.get(k).held) if (borrows(held.piece, a[0])) bits |= 1 << k;
                }
                return bits;
            }
            case "order": {
                unless(among(a[0], 5), -1);
                within(a[1], 0, 99);
                int was = orders[a[0]];
                orders[a[0]] = a[1];
                return was;
            }
            case "marker":
                unless(a[0] >= 1 && a[1] >= 1, -4);
                unless(a[0] <= 99999 && a[1] <= 9999 && markers.size() < 6, -6);
                markers.add(new int[] {a[0], a[1]});
                return markers.size() - 1;
            case "season": {
                int[] best = season();
                return best == null ? -9 : best[6];
            }
            case "often": {
                unless(among(a[0], markers.size()), -1);
                int[] best = season();
                return best == null ? -9 : best[a[0]];
            }
            case "count": {
                int[] counts = {day, bodySizes.size(), pieces.size(), rules.size(), seams.size(), conditions.size(),
                    marker.size(), trials.size(), editions.size(), text.length()};
                if (among(a[0], 10)) return counts[a[0]];
                return a[0] >= 11 && a[0] <= 17 ? refusals[a[0] - 10] : -9;
            }
            default:
                throw new IllegalStateException(name);
        }
    }

    // ---- measures, pieces, rules

    private int tableOn(int measure, int size, int on) {
        int v = 0;
        for (int[] t : tellings) if (t[0] == measure && t[1] == size && t[2] <= on) v = t[3];
        return v;
    }

    private int bodyMeasure(int body, int measure) {
        int told = bodyTold.get(body)[measure];
        return told >= 0 ? told : tableOn(measure, bodySizes.get(body), day);
    }

    private int piece(int kind, int points, int block) throws Refused {
        unless(among(kind, 4), -2);
        if (kind == 3) {
            unless(among(block, pieces.size()), -1);
            unless(pieces.get(block)[0] == 0 || pieces.get(block)[0] == 3, -1);
        } else {
            unless(block == -1, -3);
        }
        within(points, 3, 10);
        unless(pieces.size() < 16, -6);
        pieces.add(new int[] {kind, points, block});
        return pieces.size() - 1;
    }

    private int rule(int piece, int point, int from) throws Refused {
        unless(piecePoint(piece, point), -1);
        unless(!withdrawn.contains(piece), -3);
        within(from, day, 1000);
        unless(rules.size() < 120, -6);
        String told = text;
        text = "";
        int fault = faultOf(told, point);
        if (fault >= 0) return -20 - fault;
        rules.add(new RuleTold(piece, point, from, told));
        return rules.size();
    }

    /** A machine of two states, byte by byte: a unit is wanted, or what may stand behind one. */
    static int faultOf(String told, int point) {
        boolean wanted = true;
        int depth = 0;
        int commas = 0;
        int k = 0;
        while (k < told.length()) {
            char c = told.charAt(k);
            if (wanted) {
                if (c >= '0' && c <= '9') {
                    int digits = 1;
                    while (digits < 4 && k + 1 < told.length() && "0123456789".indexOf(told.charAt(k + 1)) >= 0) {
                        digits++;
                        k++;
                    }
                    wanted = false;
                } else if ("abcdefgh".indexOf(c) >= 0) {
                    wanted = false;
                } else if (c == 'x' || c == 'y') {
                    k++;
                    if (k >= told.length() || "0123456789".substring(0, point).indexOf(told.charAt(k)) < 0) return k;
                    wanted = false;
                } else {
                    if (c == 'r') k++;
                    if (k >= told.length() || told.charAt(k) != '(' || depth == 5) return k;
                    depth++;
                }
            } else if ("+-*/".indexOf(c) >= 0) {
                wanted = true;
            } else if (c == ')' && depth > 0) {
                depth--;
            } else if (c == ',' && depth == 0 && commas == 0) {
                commas++;
                wanted = true;
            } else {
                return k;
            }
            k++;
        }
        return wanted || depth > 0 || commas == 0 ? told.length() : -1;
    }

    private RuleTold ruleOn(int piece, int point, int on) {
        RuleTold best = null;
        for (RuleTold r : rules) {
            if (r.piece == piece && r.point == point && r.from <= on && (best == null || r.from >= best.from)) best = r;
        }
        return best;
    }

    private int comesFrom(int piece, int point, int on) {
        if (point >= pieces.get(piece)[1]) return 0;
        RuleTold r = ruleOn(piece, point, on);
        if (r == null) return pieces.get(piece)[0] == 3 ? comesFrom(pieces.get(piece)[2], point, on) : 0;
        int bits = 0;
        for (int k = 0; k < r.text.length(); k++) {
            char c = r.text.charAt(k);
            if (c >= 'a' && c <= 'h') bits |= 1 << (c - 'a');
            if (c == 'x' || c == 'y') bits |= comesFrom(piece, r.text.charAt(k + 1) - '0', on);
        }
        return bits;
    }

    // ---- drawing

    private Spot[] drawn(int piece, int size, int on, int body) throws Broken {
        int n = pieces.get(piece)[1];
        Spot[] raw = new Spot[n];
        for (int p = 0; p < n; p++) {
            RuleTold r = ruleOn(piece, p, on);
            if (r != null) {
                int comma = r.text.indexOf(',');
                int x = valueOf(r.text.substring(0, comma), raw, size, on, body);
                raw[p] = new Spot(x, valueOf(r.text.substring(comma + 1), raw, size, on, body));
            } else {
                int block = pieces.get(piece)[2];
                if (block < 0 || p >= pieces.get(block)[1]) throw new Broken();
                raw[p] = drawn(block, size, on, body)[p];
            }
        }
        Spot[] out = new Spot[n];
        for (int p = 0; p < n; p++) {
            int[] grade = grades.getOrDefault(piece + "." + p, new int[2]);
            int[] alter = alters.getOrDefault(piece + "." + p + "." + body, new int[2]);
            out[p] = new Spot(raw[p].x + grade[0] * (size - 5) + alter[0], raw[p].y + grade[1] * (size - 5) + alter[1]);
        }
        return out;
    }

    /** Splits a sum at its last sign outside of brackets, then a term likewise, then looks at the unit. */
    private int valueOf(String s, Spot[] raw, int size, int on, int body) throws Broken {
        for (String signs : new String[] {"+-", "*/"}) {
            int at = lastOutside(s, signs);
            if (at < 0) continue;
            long v = valueOf(s.substring(0, at), raw, size, on, body);
            long w = valueOf(s.substring(at + 1), raw, size, on, body);
            switch (s.charAt(at)) {
                case '+': return checked(v + w);
                case '-': return checked(v - w);
                case '*': return checked(v * w);
                default:
                    if (w == 0) throw new Broken();
                    return checked(v / w);
            }
        }
        char c = s.charAt(0);
        if (c == '(') return valueOf(s.substring(1, s.length() - 1), raw, size, on, body);
        if (c == 'r') {
            int v = valueOf(s.substring(2, s.length() - 1), raw, size, on, body);
            if (v < 0) throw new Broken();
            return BigInteger.valueOf(v).sqrt().intValueExact();
        }
        if (c == 'x') return checked(raw[s.charAt(1) - '0'].x);
        if (c == 'y') return checked(raw[s.charAt(1) - '0'].y);
        if (c >= 'a' && c <= 'h') return body >= 0 ? bodyMeasure(body, c - 'a') : tableOn(c - 'a', size, on);
        return Integer.parseInt(s);
    }

    private static int checked(long v) throws Broken {
        if (v < -1000000 || v > 1000000) throw new Broken();
        return (int) v;
    }

    private static int lastOutside(String s, String signs) {
        int depth = 0;
        for (int k = s.length() - 1; k >= 0; k--) {
            if (s.charAt(k) == ')') depth++;
            if (s.charAt(k) == '(') depth--;
            if (depth == 0 && signs.indexOf(s.charAt(k)) >= 0) return k;
        }
        return -1;
    }

    private static int axis(Spot spot, int axis) {
        return axis == 0 ? spot.x : spot.y;
    }

    private List<Way> line(int piece, int p, Spot[] spots) {
        Spot one = spots[p];
        Spot two = spots[(p + 1) % spots.length];
        int[] knee = knees.get(piece + "." + p);
        if (knee == null) return List.of(new Way(one, two));
        long kx = Math.floorDiv(one.x + two.x, 2) + knee[0];
        long ky = Math.floorDiv(one.y + two.y, 2) + knee[1];
        List<Way> ways = new ArrayList<>();
        Spot last = one;
        for (long t = 1; t <= 8; t++) {
            long x = Math.floorDiv((8 - t) * (8 - t) * one.x + 2 * t * (8 - t) * kx + t * t * two.x, 64L);
            long y = Math.floorDiv((8 - t) * (8 - t) * one.y + 2 * t * (8 - t) * ky + t * t * two.y, 64L);
            Spot next = new Spot((int) x, (int) y);
            ways.add(new Way(last, next));
            last = next;
        }
        return ways;
    }

    private int lengthOf(int piece, int a, int b, Spot[] spots) {
        int sum = 0;
        int p = a;
        do {
            for (Way way : line(piece, p, spots)) {
                BigInteger dx = BigInteger.valueOf(way.to.x - way.from.x);
                BigInteger dy = BigInteger.valueOf(way.to.y - way.from.y);
                sum += dx.multiply(dx).add(dy.multiply(dy)).sqrt().intValueExact();
            }
            p = (p + 1) % spots.length;
        } while (p != b);
        return sum;
    }

    private long areaOf(int piece, int size, int on) throws Broken {
        Spot[] spots = drawn(piece, size, on, -1);
        BigInteger sum = BigInteger.ZERO;
        for (int p = 0; p < spots.length; p++) {
            for (Way way : line(piece, p, spots)) {
                BigInteger plus = BigInteger.valueOf(way.from.x).multiply(BigInteger.valueOf(way.to.y));
                sum = sum.add(plus).subtract(BigInteger.valueOf(way.to.x).multiply(BigInteger.valueOf(way.from.y)));
            }
        }
        int kind = pieces.get(piece)[0];
        return sum.abs().longValueExact() * (kind == 1 || kind == 2 ? 2 : 1);
    }

    // ---- seams

    private int[] sides(Sewn s, int size, int on) throws Broken {
        return new int[] {lengthOf(s.one, s.a, s.b, drawn(s.one, size, on, -1)),
            lengthOf(s.other, s.c, s.e, drawn(s.other, size, on, -1))};
    }

    private static boolean meets(Sewn s, int[] ways) {
        return ways[1] - ways[0] >= s.least && ways[1] - ways[0] <= s.most;
    }

    private static int lost(Sewn s, int[] ways) {
        int[] ahead = null;
        for (int k = 0; k < s.notches.size(); k++) {
            int[] n = s.notches.get(k);
            boolean well = n[0] <= ways[0] && n[1] <= ways[1];
            if (ahead != null) well &= n[0] > ahead[0] && n[1] > ahead[1];
            int more = ahead == null ? n[1] - n[0] : n[1] - ahead[1] - (n[0] - ahead[0]);
            well &= more >= 0 && more <= s.gather[0];
            if (!well) return k;
            ahead = n;
        }
        return -9;
    }

    private int firstWrongSeam(int on) {
        for (int size = 0; size < 11; size++) {
            for (int s = 0; s < seams.size(); s++) {
                try {
                    int[] ways = sides(seams.get(s), size, on);
                    if (meets(seams.get(s), ways) && lost(seams.get(s), ways) == -9) continue;
                } catch (Broken broken) {
                    return 32 * size + s;
                }
                return 32 * size + s;
            }
        }
        return -9;
    }

    // ---- least moves, by making the second condition square to the first

    private static BigInteger dot(BigInteger[] v, BigInteger[] w) {
        BigInteger sum = BigInteger.ZERO;
        for (int i = 0; i < 6; i++) sum = sum.add(v[i].multiply(w[i]));
        return sum;
    }

    private BigInteger[][] leastMoves() {
        BigInteger[][] moves = new BigInteger[6][];
        for (int i = 0; i < 6; i++) moves[i] = new BigInteger[] {BigInteger.ZERO, BigInteger.ONE};
        List<BigInteger[]> square = new ArrayList<>();
        List<BigInteger> sums = new ArrayList<>();
        for (int[] c : conditions) {
            BigInteger[] v = new BigInteger[6];
            for (int i = 0; i < 6; i++) v[i] = BigInteger.valueOf(c[i]);
            BigInteger sum = BigInteger.valueOf(c[6]);
            for (int k = 0; k < square.size(); k++) {
                BigInteger whole = dot(square.get(k), square.get(k));
                BigInteger part = dot(square.get(k), v);
                for (int i = 0; i < 6; i++) v[i] = v[i].multiply(whole).subtract(square.get(k)[i].multiply(part));
                sum = sum.multiply(whole).subtract(sums.get(k).multiply(part));
            }
            if (dot(v, v).signum() == 0) {
                if (sum.signum() != 0) return null;
                continue;
            }
            square.add(v);
            sums.add(sum);
        }
        for (int k = 0; k < square.size(); k++) {
            BigInteger below = dot(square.get(k), square.get(k));
            for (int i = 0; i < 6; i++) {
                BigInteger above = square.get(k)[i].multiply(sums.get(k));
                BigInteger top = moves[i][0].multiply(below).add(above.multiply(moves[i][1]));
                BigInteger bottom = moves[i][1].multiply(below);
                BigInteger gcd = top.gcd(bottom);
                moves[i] = new BigInteger[] {top.divide(gcd), bottom.divide(gcd)};
            }
        }
        return moves;
    }

    // ---- cloth

    private List<Cell> cellsOf(int piece, int size, int on) throws Broken {
        Spot[] spots = drawn(piece, size, on, -1);
        List<Way> ways = new ArrayList<>();
        for (int p = 0; p < spots.length; p++) ways.addAll(line(piece, p, spots));
        if (pieces.get(piece)[0] == 1) {
            for (Way way : new ArrayList<>(ways)) {
                int fold = 2 * spots[0].x;
                ways.add(new Way(new Spot(fold - way.from.x, way.from.y), new Spot(fold - way.to.x, way.to.y)));
            }
        }
        int leastX = ways.stream().mapToInt(w -> w.from.x).min().getAsInt();
        int leastY = ways.stream().mapToInt(w -> w.from.y).min().getAsInt();
        int mostX = ways.stream().mapToInt(w -> w.from.x).max().getAsInt();
        int mostY = ways.stream().mapToInt(w -> w.from.y).max().getAsInt();
        List<Cell> cells = new ArrayList<>();
        if (mostX - leastX > 24 * cloth[1] || mostY - leastY > 24 * cloth[1]) return cells;
        for (int i = 0; i < 24; i++) {
            for (int j = 0; j < 24; j++) {
                int crossed = 0;
                for (Way w : ways) if (crosses(w, leastX, leastY, (2 * i + 1) * cloth[1], (2 * j + 1) * cloth[1])) crossed++;
                if (crossed % 2 == 1) cells.add(new Cell(i, j));
            }
        }
        int left = cells.stream().mapToInt(Cell::i).min().orElse(0);
        int low = cells.stream().mapToInt(Cell::j).min().orElse(0);
        cells.replaceAll(c -> new Cell(c.i - left, c.j - low));
        return cells;
    }

    private static boolean crosses(Way way, int leastX, int leastY, int mx, int my) {
        long x = 2L * (way.from.x - leastX);
        long y = 2L * (way.from.y - leastY);
        long u = 2L * (way.to.x - leastX);
        long v = 2L * (way.to.y - leastY);
        if ((y > my) == (v > my)) return false;
        // x + (u - x) (my - y) / (v - y) > mx, times the square of (v - y), which is above 0
        return (x - mx) * (v - y) * (v - y) + (u - x) * (my - y) * (v - y) > 0;
    }

    private static List<Cell> turned(List<Cell> cells, int turn) {
        if (turn == 0) return cells;
        int wide = cells.stream().mapToInt(Cell::i).max().getAsInt();
        int high = cells.stream().mapToInt(Cell::j).max().getAsInt();
        List<Cell> out = new ArrayList<>();
        for (Cell c : cells) out.add(new Cell(wide - c.i, high - c.j));
        return out;
    }

    private boolean lies(boolean[][] taken, List<Cell> turned, int column, int row, int turn) {
        if (turn > 1 || turn == 1 && cloth[2] == 1) return false;
        if (cloth[3] > 0 && column % cloth[3] != 0) return false;
        for (Cell c : turned) {
            if (c.i + column > 95 || c.j + row >= cloth[0] || taken[c.i + column][c.j + row]) return false;
        }
        return true;
    }

    private static int longOf(boolean[][] taken) {
        int last = 0;
        for (int c = 0; c < 96; c++) for (int r = 0; r < 24; r++) if (taken[c][r]) last = c + 1;
        return last;
    }

    private int[] firstPlace(boolean[][] taken, List<Cell> cells) {
        List<List<Cell>> both = List.of(cells, turned(cells, 1));
        for (int c = 0; c < 96; c++) {
            for (int r = 0; r < cloth[0]; r++) {
                for (int t = 0; t < 2; t++) if (lies(taken, both.get(t), c, r, t)) return new int[] {c, r, t};
            }
        }
        return null;
    }

    private List<List<Cell>> shapes() throws Refused, Broken {
        unless(!marker.isEmpty(), -5);
        List<List<Cell>> shapes = new ArrayList<>();
        for (Held held : marker) {
            List<Cell> cells = cellsOf(held.piece, held.size, day);
            unless(!cells.isEmpty(), -7);
            shapes.add(cells);
        }
        return shapes;
    }

    /** Each one's place, and behind them how long; all orders as numbers in base 4, one after another. */
    private int[][] shortest() throws Refused, Broken {
        List<List<Cell>> shapes = shapes();
        int n = shapes.size();
        int[][] best = null;
        for (int code = 0; code < 256; code++) {
            int[] order = {code / 64, code / 16 % 4, code / 4 % 4, code % 4};
            order = Arrays.copyOfRange(order, 4 - n, 4);
            if (code >= Math.pow(4, n) || Arrays.stream(order).distinct().count() < n) continue;
            if (Arrays.stream(order).max().getAsInt() >= n) continue;
            boolean[][] taken = new boolean[96][24];
            int[][] places = new int[n + 1][];
            boolean fits = true;
            for (int i : order) {
                places[i] = fits ? firstPlace(taken, shapes.get(i)) : null;
                fits &= places[i] != null;
                if (!fits) break;
                for (Cell c : turned(shapes.get(i), places[i][2])) taken[c.i + places[i][0]][c.j + places[i][1]] = true;
            }
            if (!fits) continue;
            places[n] = new int[] {longOf(taken)};
            if (best == null || places[n][0] < best[n][0]) best = places;
        }
        unless(best != null, -3);
        return best;
    }

    private int judge() throws Refused, Broken {
        unless(!marker.isEmpty() && row.size() == 3 * marker.size(), -5);
        List<List<Cell>> shapes = shapes();
        List<Integer> bytes = new ArrayList<>(row);
        row.clear();
        boolean[][] taken = new boolean[96][24];
        for (int i = 0; i < shapes.size(); i++) {
            int c = bytes.get(3 * i);
            int r = bytes.get(3 * i + 1);
            int t = bytes.get(3 * i + 2);
            if (!lies(taken, turned(shapes.get(i), t), c, r, t)) return -100 - i;
            for (Cell cell : turned(shapes.get(i), t)) taken[cell.i + c][cell.j + r] = true;
        }
        return longOf(taken);
    }

    private static int cut(int v, int stays, boolean washed) {
        int whole = 0;
        while (whole * stays < Math.abs(v) * 100) whole++;
        int kept = washed ? whole * stays / 100 : whole;
        return v < 0 ? -kept : kept;
    }

    // ---- trials, editions, a season

    private int said(int piece, int body, int a, int b, int what) throws Refused, Broken {
        unless(piecePoint(piece, a) && piecePoint(piece, b) && among(body, bodySizes.size()), -1);
        unless(among(what, 3), -2);
        List<Trial> of = new ArrayList<>();
        for (Trial t : trials) if (t.piece == piece && t.body == body && t.a == a && t.b == b) of.add(t);
        unless(!of.isEmpty(), -5);
        int least = of.stream().mapToInt(t -> t.v - t.doubt).max().getAsInt();
        int most = of.stream().mapToInt(t -> t.v + t.doubt).min().getAsInt();
        unless(least <= most, -3);
        if (what < 2) return what == 0 ? least : most;
        int length = lengthOf(piece, a, b, drawn(piece, bodySizes.get(body), day, body));
        return length >= least && length <= most ? 1 : 0;
    }

    private boolean agrees(Printed edition, Word word) {
        Held held = edition.held.get(word.i);
        if (word.what == 0) return pieces.get(held.piece)[1] == word.n;
        try {
            if (word.what == 2) return areaOf(held.piece, held.size, edition.day) == word.n;
            return lengthOf(held.piece, 0, 0, drawn(held.piece, held.size, edition.day, -1)) == word.n;
        } catch (Broken broken) {
            return false;
        }
    }

    private boolean borrows(int piece, int from) {
        if (piece == from) return true;
        return pieces.get(piece)[0] == 3 && borrows(pieces.get(piece)[2], from);
    }

    /** How often each, and at 6 the cloth; null if no way meets all orders. */
    private int[] season() {
        int ways = 1;
        for (int k = 0; k < markers.size(); k++) ways *= 10;
        int[] best = null;
        for (int way = 0; way < ways; way++) {
            int[] often = new int[7];
            int rest = way;
            for (int k = markers.size() - 1; k >= 0; k--) {
                often[k] = rest % 10;
                rest /= 10;
            }
            boolean met = true;
            for (int s = 0, ten = 1; s < 5; s++, ten *= 10) {
                int made = 0;
                for (int k = 0; k < markers.size(); k++) made += often[k] * (markers.get(k)[0] / ten % 10);
                met &= made >= orders[s];
            }
            for (int k = 0; k < markers.size(); k++) often[6] += often[k] * markers.get(k)[1];
            if (met && (best == null || often[6] < best[6])) best = often;
        }
        return best;
    }
}
