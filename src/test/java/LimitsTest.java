import java.util.Arrays;
import java.util.HashMap;
import java.util.IdentityHashMap;
import java.util.List;
import java.util.Map;
import java.util.Set;
import java.util.TreeSet;

/**
 * Each call's arguments at the least and the greatest that is taken, one beyond, far beyond, and two of them beyond
 * at once; in states in which it is taken and in states in which it is refused. A refused call answers the first
 * refusal that fits, counts it, and changes nothing else; one that is taken counts none.
 */
public final class LimitsTest {
    /** The refusals that each call knows, in the order in which the document tells them. */
    private static final String REFUSALS = """
        days -4 -6
        table -1 -4 -6
        tabled -1 -4 -6
        body -1 -6
        measure -1 -4 -6
        measured -1
        piece -2 -1 -3 -4 -6
        withdraw -1 -3
        feed -4 -6
        rule -1 -3 -4 -6
        quarrel -1 -4 -6
        from -1 -4 -6
        grade -1 -4 -6
        alter -1 -4 -6
        curve -1 -4 -6
        straight -1
        at -1 -2 -4 -6 -7
        on -1 -2 -7
        length -1 -4 -6 -7
        lengthOn -1 -7
        area -1 -4 -6 -7
        seam -1 -4 -6
        notch -1 -4 -6
        gather -1 -4 -6
        ease -1 -4 -6 -7
        meets -1 -4 -6 -7
        lost -1 -4 -6 -7
        wrong -4 -6
        condition -4 -6
        free
        least -1 -2 -3
        cloth -2 -4 -6
        cells -1 -4 -6 -7
        lays -1 -6
        clear
        shortest -2 -5 -7 -3
        place -2 -5 -7 -3 -1
        put -4 -6
        judge -5 -7
        cut -2 -4 -6
        trial -1 -4 -6
        said -1 -2 -5 -3 -7
        edition -6
        holds -5 -3 -1 -7 -6
        word -1 -2 -4 -6
        firstWrong -1
        fault -1
        order -1 -4 -6
        marker -4 -6
        season
        often -1
        count
        """;

    private static final Map<String, int[]> ORDER = new HashMap<>();
    private static final Set<String> TAKEN = new TreeSet<>();
    private static final Set<String> REFUSED = new TreeSet<>();
    private static final Map<World.Told, List<List<String>>> SEEN = new IdentityHashMap<>();

    private static final World.Told NOTHING = World::nothing;
    private static final World.Told SOME = World::some;

    public static void main(String[] args) {
        for (String line : REFUSALS.strip().split("\n")) {
            String[] words = line.split(" ");
            ORDER.put(words[0], numbers(Arrays.copyOfRange(words, 1, words.length)));
        }
        daysAndBodies();
        pieces();
        texts();
        points();
        drawn();
        seams();
        moves();
        cloth();
        laid();
        trials();
        editions();
        season();
        allWereAsked();
        Due.finish("LimitsTest");
    }

    // ---- arguments

    /** What it is as a rule, its ends, what is due below and above them, and whether the ends are asked, too. */
    private record Arg(long usual, long least, long most, int below, int above, boolean ends) {
        int due(long v) {
            return v < least ? below : v > most ? above : 0;
        }

        boolean limited() {
            return least > Long.MIN_VALUE;
        }

        /** The same, but its ends are not asked: they are in another state than what it is as a rule. */
        Arg around() {
            return new Arg(usual, least, most, below, above, false);
        }
    }

    private static Arg nobody(long least, long most, long usual) {
        return new Arg(usual, least, most, -1, -1, true);
    }

    /** There is none. */
    private static Arg none() {
        return new Arg(0, 0, -1, -1, -1, false);
    }

    private static Arg other(long least, long most, long usual) {
        return new Arg(usual, least, most, -2, -2, true);
    }

    private static Arg range(long least, long most, long usual) {
        return new Arg(usual, least, most, -4, -6, true);
    }

    private static Arg day() {
        return range(0, 1000, World.TODAY);
    }

    private static Arg size() {
        return nobody(0, 10, 5);
    }

    private static Arg any(long usual) {
        return new Arg(usual, Long.MIN_VALUE, Long.MAX_VALUE, 0, 0, false);
    }

    // ---- checking

    /** All that is said above, of one call in one state, in which those refusals fit whatever the arguments are. */
    private static void check(String call, World.Told world, String fits, Arg... args) {
        long[] usual = new long[args.length];
        for (int i = 0; i < args.length; i++) usual[i] = args[i].usual;
        checkOne(call, world, fits, args, usual);
        for (int i = 0; i < args.length; i++) {
            for (long v : singles(args[i])) checkOne(call, world, fits, args, with(usual, i, v));
            for (int k = i + 1; k < args.length; k++) {
                for (long v : beyond(args[i])) {
                    for (long w : beyond(args[k])) checkOne(call, world, fits, args, with(with(usual, i, v), k, w));
                }
            }
        }
    }

    private static long[] with(long[] usual, int i, long v) {
        long[] given = usual.clone();
        given[i] = v;
        return given;
    }

    private static Set<Long> singles(Arg arg) {
        Set<Long> values = beyond(arg);
        if (!arg.limited()) return values;
        values.add((long) Integer.MIN_VALUE);
        values.add((long) Integer.MAX_VALUE);
        if (arg.ends) values.addAll(List.of(arg.least, arg.most));
        return values;
    }

    private static Set<Long> beyond(Arg arg) {
        return new TreeSet<>(arg.limited() ? List.of(arg.least - 1, Math.max(arg.least, arg.most + 1)) : List.of());
    }

    private static int firstThatFits(String call, String fits, Arg[] args, long[] given) {
        Set<Integer> fitting = new TreeSet<>();
        for (int why : numbers(fits.split(" "))) fitting.add(why);
        for (int i = 0; i < args.length; i++) fitting.add(args[i].due(given[i]));
        for (int why : ORDER.get(call)) if (fitting.contains(why)) return why;
        return 0;
    }

    private static void checkOne(String call, World.Told world, String fits, Arg[] args, long[] given) {
        int why = firstThatFits(call, fits, args, given);
        String told = Calls.told(call, given);
        Calls x = Calls.withModel();
        world.tell(x);
        long[] due = x.refusals();
        long got = x.ask(call, given);
        if (why != 0) {
            Due.due(told, got, Calls.asAnswered(call, why));
            due[-why - 1]++;
            checkUnchanged(told, call, world, given);
        }
        long[] counted = x.refusals();
        for (int k = 0; k < 7; k++) Due.due("refusals " + (-1 - k) + " behind " + told, counted[k], due[k]);
        if (why == 0) TAKEN.add(call);
        else REFUSED.add(call + " " + why);
    }

    private static void checkUnchanged(String told, String call, World.Told world, long[] given) {
        if (!SEEN.containsKey(world)) {
            SEEN.put(world, List.of(Seen.byAsking(made(world)), Seen.byTelling(made(world))));
        }
        Calls asked = made(world);
        asked.ask(call, given);
        Due.holds(told + " is refused and changes nothing", Seen.byAsking(asked).equals(SEEN.get(world).get(0)));
        Calls toldMore = made(world);
        toldMore.ask(call, given);
        Due.holds(told + " is refused and leaves what is told", Seen.byTelling(toldMore).equals(SEEN.get(world).get(1)));
    }

    private static Calls made(World.Told world) {
        Calls x = Calls.plain();
        world.tell(x);
        return x;
    }

    private static int[] numbers(String[] words) {
        return Arrays.stream(words).filter(word -> !word.isEmpty()).mapToInt(Integer::parseInt).toArray();
    }

    /** Each call was taken once at least, and refused by each of the refusals that it knows. */
    private static void allWereAsked() {
        for (String call : Calls.names()) {
            Due.holds(call + " was taken", TAKEN.contains(call));
            for (int why : ORDER.get(call)) Due.holds(call + " was refused by " + why, REFUSED.contains(call + " " + why));
        }
    }

    // ---- promises 2 to 7

    private static void daysAndBodies() {
        check("days", NOTHING, "", range(1, 1000, 1));
        check("days", SOME, "", range(1, 1000 - World.TODAY, 1));
        check("days", World::lastDay, "-6", range(1, 1000, 1));
        check("table", NOTHING, "", nobody(0, 7, 0), size(), range(0, 9999, 50));
        check("table", SOME, "", nobody(0, 7, 0), size(), range(0, 9999, 50));
        check("table", World::lastDay, "", nobody(0, 7, 0), size(), range(0, 9999, 50));
        check("tabled", NOTHING, "", nobody(0, 7, 0), size(), day());
        check("tabled", SOME, "", nobody(0, 7, 0), size(), day());
        check("body", NOTHING, "", size());
        check("body", SOME, "", size());
        check("body", World::allBodies, "-6", size());
        check("measure", NOTHING, "", none(), nobody(0, 7, 0), range(-1, 9999, 5));
        check("measure", SOME, "", nobody(0, 1, 0), nobody(0, 7, 0), range(-1, 9999, 5));
        check("measure", World::allBodies, "", nobody(0, 11, 11), nobody(0, 7, 7), range(-1, 9999, 5));
        check("measured", NOTHING, "", none(), nobody(0, 7, 0));
        check("measured", SOME, "", nobody(0, 1, 0), nobody(0, 7, 0));
        check("measured", World::allBodies, "", nobody(0, 11, 11), nobody(0, 7, 0));
    }

    // ---- promises 8 and 9

    private static void pieces() {
        Arg noBlock = new Arg(-1, -1, -1, -3, -3, true);
        for (int kind = 0; kind < 3; kind++) {
            check("piece", NOTHING, "", other(0, 3, kind).around(), range(3, 10, 4), noBlock);
            check("piece", SOME, "", other(0, 3, kind).around(), range(3, 10, 4), noBlock);
        }
        check("piece", NOTHING, "", other(0, 3, 3).around(), range(3, 10, 4), none());
        check("piece", SOME, "", other(0, 3, 3).around(), range(3, 10, 4), nobody(World.PLAIN, World.BORROWED, World.BROKEN));
        check("piece", SOME, "-1", other(0, 3, 3).around(), range(3, 10, 4), any(World.WITHDRAWN));
        check("piece", SOME, "-1", other(0, 3, 3).around(), range(3, 10, 4), any(World.FOLDED));
        check("piece", World::allPieces, "-6", other(0, 3, 0).around(), range(3, 10, 4), noBlock);
        check("piece", World::allPieces, "-6", other(0, 3, 3).around(), range(3, 10, 4), nobody(0, 15, 0).around());
        check("withdraw", NOTHING, "", none());
        check("withdraw", SOME, "", nobody(0, 4, 1));
        check("withdraw", SOME, "-3", nobody(0, 4, World.WITHDRAWN).around());
        check("withdraw", World::allPieces, "", nobody(0, 15, 15));
    }

    // ---- promises 10 to 13

    private static void texts() {
        check("feed", NOTHING, "", range(1, 8, 1), any(0));
        check("feed", SOME, "", range(1, 8, 3), any(-1));
        check("feed", World::threeBytesLess, "", range(1, 3, 2), any(Long.MIN_VALUE));
        check("feed", World::allBytes, "-6", range(1, 8, 1), any(0));
        check("rule", NOTHING, "", none(), nobody(0, -1, 0).around(), range(0, 1000, 0));
        check("rule", SOME, "", nobody(0, 4, 0), nobody(0, 3, 0), range(World.TODAY, 1000, World.TODAY));
        check("rule", World::lastDay, "", nobody(0, 4, 0), nobody(0, 3, 0), range(1000, 1000, 1000));
        check("rule", World::faultyText, "", nobody(0, 4, 0), nobody(0, 3, 0), range(World.TODAY, 1000, World.TODAY));
        check("rule", World::noText, "", nobody(0, 4, 0), nobody(0, 3, 0), range(World.TODAY, 1000, World.TODAY));
        check("rule", World::allBytes, "", nobody(0, 4, 0), nobody(0, 3, 0), range(World.TODAY, 1000, World.TODAY));
        check("rule", SOME, "-3", nobody(0, 4, World.WITHDRAWN).around(), nobody(0, 2, 0),
            range(World.TODAY, 1000, World.TODAY));
        check("rule", World::allRules, "-6", nobody(0, 1, 0).around(), nobody(0, 9, 0), range(World.TODAY, 1000, World.TODAY));
        check("rule", World::allRules, "-3 -6", nobody(0, 1, 1).around(), nobody(0, 9, 0),
            range(World.TODAY, 1000, World.TODAY));
        check("rule", World::allRulesAndFault, "-6", nobody(0, 1, 0).around(), nobody(0, 9, 0),
            range(World.TODAY, 1000, World.TODAY));
        for (String call : List.of("quarrel", "from")) {
            check(call, NOTHING, "", none(), none(), day());
            check(call, SOME, "", nobody(0, 4, 0), nobody(0, 3, 2), day());
            check(call, World::allRules, "", nobody(0, 1, 0), nobody(0, 9, 9), day());
        }
    }

    // ---- promises 14 to 17

    private static void points() {
        check("grade", NOTHING, "", none(), none(), range(-99, 99, 1), range(-99, 99, 1));
        check("grade", SOME, "", nobody(0, 4, 0), nobody(0, 3, 1), range(-99, 99, 1), range(-99, 99, -1));
        check("curve", NOTHING, "", none(), none(), range(-999, 999, 1), range(-999, 999, 1));
        check("curve", SOME, "", nobody(0, 4, 0), nobody(0, 3, 2), range(-999, 999, 1), range(-999, 999, -1));
        check("straight", NOTHING, "", none(), none());
        check("straight", SOME, "", nobody(0, 4, 0), nobody(0, 3, 2));
        Arg move = range(-999, 999, 1);
        check("alter", NOTHING, "", none(), none(), none(), move, move);
        check("alter", SOME, "", nobody(0, 4, 0), nobody(0, 3, 2), nobody(0, 1, 0), move, move);
        check("alter", World::allAltered, "-6", nobody(0, 4, 4).around(), nobody(0, 3, 3).around(), nobody(0, 2, 2).around(),
            move, move);
        check("alter", World::allAltered, "", nobody(0, 4, 0).around(), nobody(0, 3, 0), nobody(0, 2, 2), move, move);
    }

    // ---- promises 18 to 22

    private static void drawn() {
        Arg axis = other(0, 1, 0);
        Arg broken = nobody(0, 4, World.BROKEN).around();
        check("at", NOTHING, "", none(), none(), size(), day(), axis);
        check("at", SOME, "", nobody(0, 4, 0), nobody(0, 3, 1), size(), day(), axis);
        check("at", SOME, "-7", broken, nobody(0, 2, 1), size(), day(), axis);
        check("on", NOTHING, "", none(), none(), none(), axis);
        check("on", SOME, "", nobody(0, 4, 0), nobody(0, 3, 1), nobody(0, 1, 0), axis);
        check("on", SOME, "-7", broken, nobody(0, 2, 1), nobody(0, 1, 0), axis);
        check("length", NOTHING, "", none(), none(), none(), size(), day());
        check("length", SOME, "", nobody(0, 4, 0), nobody(0, 3, 1), nobody(0, 3, 2), size(), day());
        check("length", SOME, "-7", broken, nobody(0, 2, 1), nobody(0, 2, 2), size(), day());
        check("lengthOn", NOTHING, "", none(), none(), none(), none());
        check("lengthOn", SOME, "", nobody(0, 4, 0), nobody(0, 3, 1), nobody(0, 3, 2), nobody(0, 1, 0));
        check("lengthOn", SOME, "-7", broken, nobody(0, 2, 1), nobody(0, 2, 2), nobody(0, 1, 0));
        for (String call : List.of("area", "cells")) {
            check(call, NOTHING, "", none(), size(), day());
            check(call, SOME, "", nobody(0, 4, 0), size(), day());
            check(call, SOME, "-7", broken, size(), day());
        }
    }

    // ---- promises 23 to 29

    private static void seams() {
        Arg least = new Arg(-999, -999, 999, -4, -4, true);
        Arg most = range(-999, 999, 999);
        Arg piece = nobody(0, 4, 0);
        Arg point = nobody(0, 3, 1);
        check("seam", NOTHING, "", none(), none(), none(), none(), none(), none(), least, any(999));
        check("seam", SOME, "", piece, point, point, piece, point, point, least, any(999));
        check("seam", SOME, "", piece, point, point, piece, point, point, any(-999), most);
        check("seam", SOME, "-4", piece, point, point, piece, point, point, any(1), any(0));
        check("seam", SOME, "-4 -6", piece, point, point, piece, point, point, any(1001), any(1000));
        check("seam", SOME, "-6", piece, point, point, piece, point, point, any(1000), any(1000));
        check("seam", World::allSeams, "-6", piece, point, point, piece, point, point, least, any(999));
        check("notch", NOTHING, "", none(), range(0, 99999, 5), range(0, 99999, 5));
        check("notch", SOME, "", nobody(0, 2, 0), range(0, 99999, 5), range(0, 99999, 5));
        check("notch", World::allSeams, "", nobody(0, 19, 19), range(0, 99999, 5), range(0, 99999, 5));
        check("notch", World::allNotches, "-6", nobody(0, 2, 0).around(), range(0, 99999, 5), range(0, 99999, 5));
        check("gather", NOTHING, "", none(), range(0, 999, 3));
        check("gather", SOME, "", nobody(0, 2, 0), range(0, 999, 3));
        check("gather", World::allSeams, "", nobody(0, 19, 19), range(0, 999, 3));
        for (String call : List.of("ease", "meets", "lost")) {
            check(call, NOTHING, "", none(), size(), day());
            check(call, SOME, "", nobody(0, 2, 0), size(), day());
            check(call, SOME, "-7", nobody(0, 2, 1).around(), size(), day());
            check(call, World::allSeams, "", nobody(0, 19, 19), size(), day());
        }
        check("wrong", NOTHING, "", day());
        check("wrong", SOME, "", day());
    }

    // ---- promises 30 to 32

    private static void moves() {
        Arg c = range(-99, 99, 1);
        Arg sum = range(-9999, 9999, 5);
        check("condition", NOTHING, "", c, c, c, c, c, c, sum);
        check("condition", SOME, "", c, c, c, c, c, c, sum);
        check("condition", World::allConditions, "-6", c, c, c, c, c, c, sum);
        for (World.Told world : List.<World.Told>of(NOTHING, SOME, World::allConditions)) {
            check("least", world, "", nobody(0, 5, 0), other(0, 1, 0));
            check("free", world, "");
        }
        check("least", World::barred, "-3", nobody(0, 5, 0), other(0, 1, 0));
        check("free", World::barred, "");
    }

    // ---- promises 33, 39 and 41

    private static void cloth() {
        int[][] ends = {{1, 24}, {1, 500}, {0, 1}, {0, 12}, {0, 50}, {0, 50}};
        for (int what = 0; what < 6; what++) {
            check("cloth", NOTHING, "", other(0, 5, what).around(), range(ends[what][0], ends[what][1], 1));
            check("cloth", SOME, "", other(0, 5, what).around(), range(ends[what][0], ends[what][1], 1));
        }
        for (int washed = 0; washed < 2; washed++) {
            check("cut", NOTHING, "", range(-99999, 99999, 7), other(0, 1, 1), any(washed));
            check("cut", SOME, "", range(-99999, 99999, 7), other(0, 1, 0), any(washed));
        }
        check("put", NOTHING, "", range(0, 95, 1));
        check("put", SOME, "", range(0, 95, 1));
        check("put", World::allOfRow, "-6", range(0, 95, 1));
    }

    // ---- promises 35 to 38, and 40

    private static void laid() {
        check("lays", NOTHING, "", none(), size());
        check("lays", SOME, "", nobody(0, 4, 1), size());
        check("lays", World::allLaid, "-6", nobody(0, 4, 1), size());
        for (World.Told world : List.<World.Told>of(NOTHING, SOME, World::allLaid)) check("clear", world, "");
        laidIn(SOME, "", nobody(0, 1, 1));
        laidIn(World::allLaid, "", nobody(0, 3, 3));
        laidIn(NOTHING, "-5", none());
        laidIn(World::nothingLaid, "-5", none());
        laidIn(World::brokenLaid, "-7 -3", nobody(0, 1, 0));
        laidIn(World::tooWideLaid, "-7 -3", nobody(0, 1, 0));
        laidIn(World::noCellLaid, "-7", nobody(0, 1, 0));
        laidIn(World::narrow, "-3", nobody(0, 1, 0));
        check("judge", World::rowForAll, "");
        check("judge", World::narrowRowForAll, "");
        for (World.Told world : List.<World.Told>of(NOTHING, SOME, World::rowTooLong, World::nothingLaid)) {
            check("judge", world, "-5");
        }
        check("judge", World::brokenAndShortRow, "-5 -7");
        for (World.Told world : List.<World.Told>of(World::brokenLaid, World::tooWideLaid, World::noCellLaid)) {
            check("judge", world, "-7");
        }
    }

    private static void laidIn(World.Told world, String fits, Arg i) {
        check("shortest", world, fits, other(0, 1, 0));
        check("place", world, fits, i, other(0, 2, 0));
    }

    // ---- promises 42 and 43

    private static void trials() {
        Arg point = nobody(0, 3, 1);
        Arg v = range(0, 99999, 50);
        Arg doubt = range(0, 999, 5);
        check("trial", NOTHING, "", none(), none(), none(), none(), v, doubt);
        check("trial", SOME, "", nobody(0, 4, 0), nobody(0, 1, 0), point, point, v, doubt);
        check("trial", World::allTrials, "-6", nobody(0, 4, 0), nobody(0, 1, 0), point, point, v, doubt);
        check("said", NOTHING, "", none(), none(), none(), none(), other(0, 2, 0));
        saidOf(SOME, "", World.PLAIN, 0, 0, 1, other(0, 2, 0));
        saidOf(SOME, "-5", World.PLAIN, 1, 0, 1, other(0, 2, 0));
        saidOf(SOME, "-5", World.FOLDED, 0, 0, 1, other(0, 2, 0));
        saidOf(SOME, "-5 -7", World.BROKEN, 1, 0, 1, other(0, 2, 2).around());
        saidOf(SOME, "-3", World.PLAIN, 0, 1, 2, other(0, 2, 0));
        saidOf(SOME, "-7", World.BROKEN, 0, 0, 1, other(0, 2, 2).around());
        saidOf(SOME, "", World.BROKEN, 0, 0, 1, other(0, 2, 0).around());
        saidOf(SOME, "", World.BROKEN, 0, 0, 1, other(0, 2, 1).around());
        saidOf(World::brokenLetsNone, "-3 -7", World.BROKEN, 0, 0, 1, other(0, 2, 2).around());
    }

    private static void saidOf(World.Told world, String fits, int piece, int body, int a, int b, Arg what) {
        int last = piece == World.PLAIN || piece == World.BORROWED ? 3 : 2;
        check("said", world, fits, nobody(0, 4, piece).around(), nobody(0, 1, body).around(), nobody(0, last, a).around(),
            nobody(0, last, b).around(), what);
    }

    // ---- promises 44 to 48

    private static void editions() {
        check("edition", NOTHING, "");
        check("edition", SOME, "");
        check("edition", World::allEditions, "-6");
        Arg broken = nobody(0, 4, World.BROKEN).around();
        check("holds", NOTHING, "-5", none(), size());
        check("holds", World::noEdition, "-5", nobody(0, 4, 0), size());
        check("holds", World::noEdition, "-5 -7", broken, size());
        check("holds", SOME, "", nobody(0, 4, 0), size());
        check("holds", SOME, "-7", broken, size());
        check("holds", World::allHeld, "-6", nobody(0, 4, 0), size());
        check("holds", World::allHeld, "-7 -6", broken, size());
        check("holds", World::editionOver, "-3 -6", nobody(0, 4, 0), size());
        check("holds", World::editionOver, "-3 -7 -6", broken, size());
        Arg number = range(0, 1000000000, 4);
        check("word", NOTHING, "", none(), none(), other(0, 2, 0), number);
        check("word", SOME, "", nobody(0, 0, 0), nobody(0, 1, 0), other(0, 2, 0), number);
        check("word", World::allHeld, "", nobody(0, 0, 0), nobody(0, 7, 7), other(0, 2, 0), number);
        check("word", World::editionOver, "", nobody(0, 0, 0), nobody(0, 7, 7), other(0, 2, 0), number);
        check("word", World::allEditions, "", nobody(0, 11, 11).around(), none(), other(0, 2, 0), number);
        check("word", World::allWords, "-6", nobody(0, 0, 0), nobody(0, 1, 0), other(0, 2, 0), number);
        check("firstWrong", NOTHING, "", none());
        check("firstWrong", SOME, "", nobody(0, 0, 0));
        check("firstWrong", World::allEditions, "", nobody(0, 11, 11));
        check("fault", NOTHING, "", none());
        check("fault", SOME, "", nobody(0, 4, 0));
        check("fault", World::allPieces, "", nobody(0, 15, 15));
    }

    // ---- promises 49 to 53

    private static void season() {
        check("order", NOTHING, "", nobody(0, 4, 0), range(0, 99, 5));
        check("order", SOME, "", nobody(0, 4, 0), range(0, 99, 5));
        check("marker", NOTHING, "", range(1, 99999, 12), range(1, 9999, 5));
        check("marker", SOME, "", range(1, 99999, 12), range(1, 9999, 5));
        check("marker", World::allMarkers, "-6", range(1, 99999, 12), range(1, 9999, 5));
        for (World.Told world : List.<World.Told>of(NOTHING, SOME, World::noSeason)) {
            check("season", world, "");
            check("often", world, "", world == NOTHING ? none() : nobody(0, 1, 0));
            for (int what = -2; what < 20; what++) check("count", world, "", any(what));
            check("count", world, "", any(Integer.MIN_VALUE));
            check("count", world, "", any(Integer.MAX_VALUE));
        }
    }
}
