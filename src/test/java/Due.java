/** What the project's tests share: counting answers that are not as due, and feeding texts. */
final class Due {
    private static int wrong = 0;
    private static int asked = 0;

    private Due() {
    }

    static void due(String call, long got, long want) {
        asked++;
        if (got == want) return;
        wrong++;
        System.out.println(call + " answered " + got + ", due is " + want);
    }

    static void holds(String what, boolean is) {
        due(what, is ? 1 : 0, 1);
    }

    /** Feeds a text, eight bytes at a time at most; answers what the last feed answered. */
    static int feed(PatternHouse x, String text) {
        int answer = 0;
        for (int at = 0; at < text.length(); at += 8) {
            int n = Math.min(8, text.length() - at);
            answer = x.feed(n, packed(text.substring(at, at + n)));
        }
        return answer;
    }

    static long packed(String text) {
        long bytes = 0;
        for (int k = text.length() - 1; k >= 0; k--) bytes = bytes << 8 | text.charAt(k) & 255;
        return bytes;
    }

    /** Feeds a text and tells it as the rule of a point from a day on. */
    static int rule(PatternHouse x, int piece, int point, int from, String text) {
        feed(x, text);
        return x.rule(piece, point, from);
    }

    /** A piece of that kind with a rule for each point, from today on: its number. */
    static int piece(PatternHouse x, int kind, String... texts) {
        int piece = x.piece(kind, texts.length, -1);
        for (int p = 0; p < texts.length; p++) rule(x, piece, p, x.count(0), texts[p]);
        return piece;
    }

    /** A rectangle from 0, 0 on. */
    static int box(PatternHouse x, int kind, int wide, int high) {
        return piece(x, kind, "0,0", wide + ",0", wide + "," + high, "0," + high);
    }

    static void refused(PatternHouse x, String when, long... wants) {
        for (int why = 1; why <= 7; why++) {
            due("count(" + (10 + why) + ") " + when, x.count(10 + why), why <= wants.length ? wants[why - 1] : 0);
        }
    }

    static void finish(String test) {
        System.out.println(test + ": " + asked + " answers, " + wrong + " not as due");
        if (wrong != 0) System.exit(1);
    }
}
