import java.util.ArrayList;
import java.util.List;

/** All that can be seen of a house, but how many refusals there were: two houses of the same state show the same. */
final class Seen {
    private final Calls x;
    private final List<String> shown = new ArrayList<>();

    private Seen(Calls x) {
        this.x = x;
    }

    /** By calls that change nothing. */
    static List<String> byAsking(Calls x) {
        Seen seen = new Seen(x);
        for (int what = 0; what < 10; what++) seen.see("count", what);
        seen.measures();
        seen.drawn();
        seen.seams();
        seen.cloth();
        seen.rest();
        return seen.shown;
    }

    /** By calls that answer what was told or how many there are, and change it. */
    static List<String> byTelling(Calls x) {
        Seen seen = new Seen(x);
        seen.textAndRow();
        for (int seam = 0; seam < 3; seam++) seen.see("gather", seam, 1);
        for (int what = 0; what < 6; what++) seen.see("cloth", what, 1);
        for (int body = 0; body < 3; body++) for (int m = 0; m < 8; m += 7) seen.see("measure", body, m, -1);
        for (int size = 0; size < 5; size++) seen.see("order", size, 0);
        for (int k = 0; k < 17; k++) seen.see("straight", World.pieceOf(k), World.pointOf(k));
        for (int piece = 0; piece < 5; piece++) seen.see("withdraw", piece);
        seen.oneMoreOfEach();
        return seen.shown;
    }

    private void see(String name, long... args) {
        shown.add(Calls.told(name, args) + " = " + x.ask(name, args));
    }

    private void measures() {
        for (int size = 5; size < 7; size++) for (int day = 0; day < 4; day += 3) see("tabled", 0, size, day);
        see("tabled", 1, 5, 1000);
        see("tabled", 7, 10, 1000);
        see("tabled", 0, 0, 1000);
        for (int body = 0; body < 3; body++) for (int m = 0; m < 3; m++) see("measured", body, m);
        for (int k = 0; k < 17; k++) see("quarrel", World.pieceOf(k), World.pointOf(k), World.TODAY);
        see("from", World.BORROWED, 2, 1000);
    }

    private void drawn() {
        for (int k = 0; k < 17; k++) {
            int piece = World.pieceOf(k);
            if (piece == World.BROKEN) continue;
            for (int axis = 0; axis < 2; axis++) {
                see("at", piece, World.pointOf(k), 6, World.TODAY, axis);
                see("on", piece, World.pointOf(k), 0, axis);
            }
            see("at", piece, World.pointOf(k), 5, 1000, 0);
        }
        for (int piece = 0; piece < 5; piece++) {
            see("length", piece, 0, 0, 5, World.TODAY);
            see("lengthOn", piece, 0, 0, 1);
            see("area", piece, 4, 0);
            see("fault", piece);
        }
    }

    private void seams() {
        for (int seam = 0; seam < 4; seam++) {
            see("ease", seam, 5, World.TODAY);
            see("meets", seam, 6, World.TODAY);
            see("lost", seam, 5, World.TODAY);
        }
        see("wrong", World.TODAY);
        for (int i = 0; i < 6; i++) for (int part = 0; part < 2; part++) see("least", i, part);
    }

    private void cloth() {
        for (int piece = 0; piece < 5; piece++) see("cells", piece, 5, World.TODAY);
        for (int what = 0; what < 2; what++) see("shortest", what);
        for (int i = 0; i < 3; i++) for (int what = 0; what < 3; what++) see("place", i, what);
        for (int axis = 0; axis < 2; axis++) see("cut", 100, axis, 0);
    }

    private void rest() {
        for (int what = 0; what < 3; what++) see("said", World.PLAIN, 0, 0, 1, what);
        see("said", World.PLAIN, 0, 1, 2, 0);
        see("said", World.FOLDED, 1, 0, 1, 1);
        for (int edition = 0; edition < 2; edition++) see("firstWrong", edition);
        see("season");
        for (int marker = 0; marker < 3; marker++) see("often", marker);
    }

    /** The text becomes a rule, whose numbers show it; the row is filled up with what shows its first bytes. */
    private void textAndRow() {
        long today = x.ask("count", 0);
        see("rule", World.PLAIN, 0, today);
        for (int axis = 0; axis < 2; axis++) see("at", World.PLAIN, 0, 5, today, axis);
        for (int k = 0; k < 3; k++) {
            see("judge");
            see("put", 0);
        }
        see("judge");
    }

    private void oneMoreOfEach() {
        see("body", 0);
        see("alter", World.BORROWED, 3, 1, 1, 1);
        see("piece", 0, 3, -1);
        see("feed", 1, '1');
        see("seam", World.PLAIN, 0, 1, World.PLAIN, 0, 1, 0, 0);
        for (int seam = 0; seam < 3; seam++) see("notch", seam, 90, 90);
        see("condition", 0, 0, 0, 0, 0, 1, 1);
        see("free");
        see("lays", World.FOLDED, 5);
        see("clear");
        see("trial", World.PLAIN, 1, 0, 1, 1, 1);
        see("holds", World.FOLDED, 5);
        see("word", 0, 0, 0, 4);
        see("edition");
        see("marker", 1, 1);
        see("days", 1);
    }
}
