import java.util.ArrayList;
import java.util.List;

/**
 * Refusals: each number at its edges, the first refusal that fits where more than one does, and that nothing is
 * changed by it: each refused call is made on one of two like houses, which must be as like behind it.
 */
public final class RefusalsTest {
    private static final int NONE = -1, BAD = -2, NOT = -3, FULL = -4;
    private static final int NULL = 1, INDEX = 2, CAST = 3, STORE = 4, SIZE = 5;
    private static final int LEAST = Integer.MIN_VALUE, MOST = Integer.MAX_VALUE;
    private static final long LONG_BAD = Long.MIN_VALUE + 2;

    // What the houses are before a call: as new; with texts that are full and one more EVENT and one more SEEN to
    // come; with all full; with texts that have FAULTS. All but the new one have SHEET 0 of 60 bytes, 1 of no
    // shorts, 2 of five ints, 3 LOST, and SIZE as their latest FINDING.
    private static final int NEW = 0, ROOMY = 1, ALL_FULL = 2, FAULTY = 3;

    private static final Checks checks = new Checks();

    public static void main(String[] args) {
        for (String row : BOUNDS) {
            bounds(row);
        }
        textsAndEvents();
        weeksOfOnesThatThereAreNot();
        seenIsFull();
        rowsOfSheets();
        items();
        itemsAsked();
        copies();
        reads();
        writes();
        checks.end();
    }

    // Of each number the least and the greatest; = stands before one that is not varied, * is any int.
    private static final String[] BOUNDS = {
        "type 0..1 0..255", "wipe 0..1", "undo 0..1", "fault 0..1", "door 0..11 0..1", "person 0..7 0..2",
        "ahead 1..9", "event 0..1 =0 =0", "event =0 0..23 0..7", "event =1 0..23 0..11", "read 0..3",
        "at 0..23 0..7 0..1", "room 0..23 0..7", "far 0..23 0..7 0..7", "meet =0 1..7", "meet =7 0..6",
        "meet 1..7 =0", "meet 0..6 =7", "empty 0..7", "found 0..2", "crowd 0..2", "sleep 0..7 0..1",
        "nice 0..23 0..1", "lens 0..1", "spare -1..1", "seen 0..23 0..7 0..7", "was 0..7 0..1", "ask 0..7",
        "chance 0..16 0..7 0..23 0..1", "weeks * 0..8 0..1", "sheet 0..3 0..2 =60", "lose 0..3",
        "put 0..3 0..2 =0 *", "copy 0..3 * 0..3 * *", "write 0..7 0..3", "count 0..8",
    };

    // ---- the edges of numbers

    private static void bounds(String row) {
        String[] words = row.split(" ");
        int[] base = new int[words.length - 1];
        for (int i = 0; i < base.length; i++) {
            base[i] = edges(words[i + 1])[0];
        }
        for (int i = 0; i < base.length; i++) {
            String word = words[i + 1];
            if (word.startsWith("=")) {
                continue;
            }
            int least = edges(word)[0];
            int most = edges(word)[1];
            taken(words[0], with(base, i, least));
            taken(words[0], with(base, i, most));
            if (!word.equals("*")) {
                for (int v : new int[] {least - 1, most + 1, LEAST, MOST}) {
                    refused(ROOMY, words[0].equals("chance") ? LONG_BAD : BAD, words[0], with(base, i, v));
                }
            }
        }
    }

    private static int[] edges(String word) {
        if (word.equals("*")) {
            return new int[] {LEAST, MOST};
        }
        String[] two = word.replace("=", "").split("\\.\\.");
        return new int[] {Integer.parseInt(two[0]), Integer.parseInt(two[two.length - 1])};
    }

    private static int[] with(int[] base, int i, int v) {
        int[] in = base.clone();
        in[i] = v;
        return in;
    }

    private static void taken(String name, int... in) {
        long got = Calls.answer(made(ROOMY), name, in);
        checks.due(Calls.told(name, in) + " is not BAD", got == BAD || got == LONG_BAD ? 1 : 0, 0);
    }

    // ---- the houses

    private static DollsAhead made(int state) {
        if (state == NEW) {
            return new DollsAhead();
        }
        DollsAhead x = Checks.fullTexts();
        if (state == FAULTY) {
            x.undo(0);
            x.undo(1);
        }
        int many = state == ALL_FULL ? 8 : 7;
        for (int e = 0; e < many; e++) {
            x.event(e % 2, 2 * e + 1, e);
            x.seen(e, e, x.at(e, e, 0) == e ? e : 7 - e);
        }
        x.ahead(5);
        x.sheet(0, 0, 60);
        for (int i = 0; i < 60; i++) {
            x.put(0, 0, i, i + 1);
        }
        x.sheet(1, 1, 0);
        x.sheet(2, 2, 5);
        for (int i = 0; i < 5; i++) {
            x.put(2, 2, i, 1000000 * i + 7);
        }
        x.sheet(3, 0, -1);
        return x;
    }

    /** All that a house tells; it is not as it was behind this. */
    private static List<Long> allOf(DollsAhead x) {
        List<Long> all = new ArrayList<>();
        for (int what = 0; what <= 7; what++) {
            all.add((long) x.count(what));
        }
        all.add(x.digest());
        all.add((long) x.ahead(1));
        // From here on the latest FINDING is of this, as count(8) is looked at by itself.
        x.get(0, 0, -1);
        for (int i = 0; i < 60; i++) {
            all.add((long) x.get(0, 0, i));
        }
        for (int s = 0; s < 4; s++) {
            for (int form = 0; form < 3; form++) {
                for (int i = 0; i <= 5; i++) {
                    all.add((long) x.get(s, form, i));
                }
                all.add((long) x.count(8));
            }
        }
        for (int s = 0; s < 4; s++) {
            all.add((long) x.lose(s));
        }
        return all;
    }

    private static void refused(int state, long want, String name, int... in) {
        DollsAhead x = made(state);
        DollsAhead twin = made(state);
        String call = "state " + state + ": " + Calls.told(name, in);
        long got = Calls.answer(x, name, in);
        checks.due(call, got, want);
        checks.due(call + " is no finding", x.count(8), twin.count(8));
        checks.due(call + " changes nothing", allOf(x).equals(allOf(twin)) ? 1 : 0, 1);
    }

    private static void finds(int state, int finding, long want, String name, int... in) {
        DollsAhead x = made(state);
        DollsAhead twin = made(state);
        String call = "state " + state + ": " + Calls.told(name, in);
        long got = Calls.answer(x, name, in);
        checks.due(call, got, want);
        checks.due(call + " is told by count(8)", x.count(8), finding);
        checks.due(call + " changes nothing else", allOf(x).equals(allOf(twin)) ? 1 : 0, 1);
    }

    private static void finds(int state, int finding, String name, int... in) {
        finds(state, finding, -10 - finding, name, in);
    }

    // ---- BAD, NOT, FULL

    private static void textsAndEvents() {
        for (int text = 0; text <= 1; text++) {
            refused(ALL_FULL, FULL, "type", text, '0');
            refused(ALL_FULL, FULL, "type", text, 0);
            refused(ALL_FULL, FULL, "type", text, 255);
            refused(ALL_FULL, BAD, "type", text, -1);
            refused(ALL_FULL, BAD, "type", text, 256);
            refused(NEW, NOT, "undo", text);
        }
        refused(NEW, BAD, "undo", -1);
        refused(NEW, BAD, "undo", 2);
        refused(NEW, NOT, "back");
        refused(ALL_FULL, FULL, "event", 0, 0, 7);
        refused(ALL_FULL, FULL, "event", 1, 23, 11);
        refused(ALL_FULL, BAD, "event", -1, 0, 0);
        refused(ALL_FULL, BAD, "event", 2, 0, 0);
        refused(ALL_FULL, BAD, "event", 0, -1, 0);
        refused(ALL_FULL, BAD, "event", 0, 24, 0);
        refused(ALL_FULL, BAD, "event", 0, 0, -1);
        refused(ALL_FULL, BAD, "event", 0, 0, 8);
        refused(ALL_FULL, BAD, "event", 1, 0, -1);
        refused(ALL_FULL, BAD, "event", 1, 0, 12);
    }

    private static void weeksOfOnesThatThereAreNot() {
        for (int state : new int[] {NEW, FAULTY}) {
            refused(state, BAD, "door", 0, 0);
            refused(state, BAD, "door", 0, 1);
            refused(state, BAD, "person", 0, 0);
            refused(state, BAD, "at", 0, 0, 0);
            refused(state, BAD, "at", 23, 0, 1);
            refused(state, BAD, "meet", 0, 1);
            refused(state, BAD, "sleep", 0, 0);
            refused(state, BAD, "was", 0, 0);
            refused(state, BAD, "was", 0, 1);
            refused(state, BAD, "ask", 0);
            refused(state, LONG_BAD, "chance", 0, 0, 0, 0);
            refused(state, BAD, "write", 0, 0);
        }
        for (int p = 0; p < 8; p++) {
            refused(ROOMY, BAD, "meet", p, p);
        }
    }

    private static void seenIsFull() {
        refused(ALL_FULL, FULL, "seen", 0, 0, 0);
        refused(ALL_FULL, FULL, "seen", 23, 7, 7);
        refused(ALL_FULL, BAD, "seen", -1, 0, 0);
        refused(ALL_FULL, BAD, "seen", 24, 0, 0);
        refused(ALL_FULL, BAD, "seen", 0, -1, 0);
        refused(ALL_FULL, BAD, "seen", 0, 8, 0);
        refused(ALL_FULL, BAD, "seen", 0, 0, -1);
        refused(ALL_FULL, BAD, "seen", 0, 0, 8);
    }

    // ---- findings

    private static void rowsOfSheets() {
        for (int n : new int[] {-1, LEAST}) {
            finds(ROOMY, SIZE, "sheet", 0, 0, n);
            finds(ROOMY, SIZE, "sheet", 1, 2, n);
            finds(ROOMY, SIZE, "sheet", 3, 2, n);
            finds(NEW, SIZE, "sheet", 0, 0, n);
            refused(ROOMY, BAD, "sheet", -1, 0, n);
            refused(ROOMY, BAD, "sheet", 4, 0, n);
            refused(ROOMY, BAD, "sheet", 0, -1, n);
            refused(ROOMY, BAD, "sheet", 0, 3, n);
        }
        for (int n : new int[] {61, MOST}) {
            refused(ROOMY, BAD, "sheet", 0, 0, n);
            refused(ROOMY, BAD, "sheet", 3, 2, n);
        }
        for (int s = 0; s < 4; s++) {
            finds(NEW, NULL, "lose", s);
        }
        finds(ROOMY, NULL, "lose", 3);
        refused(NEW, BAD, "lose", 4);
        refused(NEW, BAD, "lose", -1);
    }

    private static void items() {
        for (int i : new int[] {0, 59, 60, -1, MOST, LEAST}) {
            finds(ROOMY, NULL, "put", 3, 0, i, 1);
            finds(ROOMY, NULL, "put", 3, 2, i, 1);
            finds(ROOMY, CAST, "put", 0, 1, i, 1);
            finds(ROOMY, CAST, "put", 0, 2, i, 1);
            finds(ROOMY, CAST, "put", 1, 0, i, 1);
            finds(ROOMY, CAST, "put", 1, 2, i, 1);
            finds(ROOMY, CAST, "put", 2, 0, i, 1);
            finds(ROOMY, CAST, "put", 2, 1, i, 1);
            refused(ROOMY, BAD, "put", 3, 3, i, 1);
            refused(ROOMY, BAD, "put", 3, -1, i, 1);
            refused(ROOMY, BAD, "put", 4, 0, i, 1);
            refused(ROOMY, BAD, "put", -1, 0, i, 1);
        }
        for (int i : new int[] {-1, 60, MOST, LEAST}) {
            finds(ROOMY, INDEX, "put", 0, 0, i, 1);
        }
        finds(ROOMY, INDEX, "put", 1, 1, 0, 1);
        finds(ROOMY, INDEX, "put", 1, 1, -1, 1);
        finds(ROOMY, INDEX, "put", 2, 2, 5, 1);
    }

    private static void itemsAsked() {
        for (int i : new int[] {0, 59, 60, -1, MOST, LEAST}) {
            finds(ROOMY, NULL, LEAST, "get", 3, 0, i);
            finds(ROOMY, CAST, LEAST, "get", 0, 1, i);
            finds(ROOMY, CAST, LEAST, "get", 0, 2, i);
            finds(ROOMY, CAST, LEAST, "get", 1, 2, i);
            finds(ROOMY, CAST, LEAST, "get", 2, 1, i);
            refused(ROOMY, LEAST, "get", 3, 3, i);
            refused(ROOMY, LEAST, "get", 3, -1, i);
            refused(ROOMY, LEAST, "get", 0, LEAST, i);
            refused(ROOMY, LEAST, "get", 0, MOST, i);
            refused(ROOMY, LEAST, "get", 4, 0, i);
            refused(ROOMY, LEAST, "get", -1, 0, i);
            refused(ROOMY, LEAST, "get", LEAST, 0, i);
            refused(ROOMY, LEAST, "get", MOST, 0, i);
        }
        for (int i : new int[] {-1, 60, MOST, LEAST}) {
            finds(ROOMY, INDEX, LEAST, "get", 0, 0, i);
        }
        finds(ROOMY, INDEX, LEAST, "get", 1, 1, 0);
        finds(ROOMY, INDEX, LEAST, "get", 2, 2, 5);
    }

    private static void copies() {
        int[][] wrong = {{0, 0, 0}, {-1, 0, 0}, {0, -1, 0}, {0, 0, -1}, {99, 99, 99}, {LEAST, LEAST, LEAST}};
        for (int[] w : wrong) {
            refused(ROOMY, BAD, "copy", 4, w[0], 3, w[1], w[2]);
            refused(ROOMY, BAD, "copy", 3, w[0], 4, w[1], w[2]);
            refused(ROOMY, BAD, "copy", -1, w[0], 0, w[1], w[2]);
            refused(ROOMY, BAD, "copy", 0, w[0], -1, w[1], w[2]);
            finds(ROOMY, NULL, "copy", 3, w[0], 3, w[1], w[2]);
            finds(ROOMY, NULL, "copy", 3, w[0], 0, w[1], w[2]);
            finds(ROOMY, NULL, "copy", 2, w[0], 3, w[1], w[2]);
            finds(ROOMY, STORE, "copy", 0, w[0], 1, w[1], w[2]);
            finds(ROOMY, STORE, "copy", 1, w[0], 2, w[1], w[2]);
            finds(ROOMY, STORE, "copy", 2, w[0], 0, w[1], w[2]);
        }
        int[][] in60 = {{-1, 0, 1}, {0, -1, 1}, {0, 0, -1}, {0, 0, 61}, {1, 0, 60}, {0, 1, 60}, {60, 0, 1},
            {0, 60, 1}, {61, 0, 0}, {0, 61, 0}, {-1, 0, 0}, {0, -1, 0}, {61, 0, -1}, {0, 61, -1}, {59, 0, 2},
            {0, 59, 2}, {MOST, 0, 1}, {0, MOST, 1}, {1, 0, MOST}, {0, 1, MOST}, {MOST, MOST, MOST},
            {LEAST, 0, 0}, {0, LEAST, 0}, {0, 0, LEAST}, {60, 60, LEAST}, {MOST, 0, 0}, {0, MOST, 0}};
        for (int[] w : in60) {
            finds(ROOMY, INDEX, "copy", 0, w[0], 0, w[1], w[2]);
        }
        finds(ROOMY, INDEX, "copy", 1, 0, 1, 0, 1);
        finds(ROOMY, INDEX, "copy", 1, 1, 1, 0, 0);
        finds(ROOMY, INDEX, "copy", 1, 0, 1, 1, 0);
        finds(ROOMY, INDEX, "copy", 1, 0, 1, 0, -1);
        finds(ROOMY, INDEX, "copy", 2, 5, 2, 0, 1);
    }

    private static void reads() {
        for (int s = 0; s < 4; s++) {
            finds(NEW, NULL, "read", s);
        }
        finds(ALL_FULL, NULL, "read", 3);
        refused(ALL_FULL, BAD, "read", 4);
        refused(ALL_FULL, BAD, "read", -1);
        // What event() refuses is no refusal of read(): it took none.
        refused(ALL_FULL, 0, "read", 0);
        refused(ALL_FULL, 0, "read", 1);
        refused(ROOMY, 0, "read", 2);
    }

    private static void writes() {
        finds(ROOMY, NULL, "write", 0, 3);
        finds(ROOMY, NULL, "write", 7, 3);
        refused(ROOMY, BAD, "write", 8, 3);
        refused(ROOMY, BAD, "write", -1, 3);
        refused(ROOMY, BAD, "write", 0, 4);
        refused(ROOMY, BAD, "write", 0, -1);
        refused(ROOMY, 0, "write", 0, 1);
        refused(NEW, BAD, "write", 0, 0);
    }
}
