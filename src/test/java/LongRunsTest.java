/**
 * "An object is used for at most 512 calls after it has been made": rows of exactly so many on one object, that it
 * answers at the last of them as at the first. What is due comes from a formula, from the first answer, or from a
 * house that was made anew.
 */
public final class LongRunsTest {
    private static final int NONE = -1, BAD = -2, NOT = -3, FULL = -4;
    private static final int NULL = -11, INDEX = -12, CAST = -13, STORE = -14, SIZE = -15;
    private static final int LEAST = Integer.MIN_VALUE;
    private static final int MOST_CALLS = 512;
    private static final String STAR = "01;02;03;04;05;06;07";

    // Calls that change nothing, each with numbers at which a house that is full has something to tell.
    private static final String[] ASKED = {
        "fault 0", "fault 1", "door 11 1", "person 7 0", "person 7 2", "at 12 3 0", "at 12 3 1", "room 9 4",
        "far 17 2 6", "meet 2 5", "empty 3", "found 0", "found 1", "found 2", "crowd 0", "crowd 1", "crowd 2",
        "alone", "sleep 4 0", "sleep 4 1", "nice 6 0", "nice 6 1", "lens 0", "lens 1", "spare -1", "spare 0",
        "spare 1", "never", "was 5 0", "was 5 1", "ask 1", "chance 5 6 14 0", "chance 5 6 14 1", "weeks 77 8 0",
        "weeks 77 8 1", "get 0 1 2", "count 0", "count 1", "count 2", "count 3", "count 4", "count 5", "count 6",
        "count 7", "count 8", "digest",
    };

    // Calls that a full house refuses, each with what is due.
    private static final String[] REFUSED = {
        "type 0 48 = -4", "type 1 300 = -2", "event 0 0 0 = -4", "event 1 0 12 = -2", "seen 0 0 0 = -4",
        "seen 24 0 0 = -2", "ahead 10 = -2", "wipe 2 = -2", "undo -1 = -2", "read 3 = -11", "lose 3 = -11",
        "sheet 0 0 -1 = -15", "sheet 0 0 61 = -2", "put 0 1 3 9 = -12", "put 0 0 0 9 = -13", "copy 0 0 3 0 1 = -11",
        "copy 0 0 1 0 1 = -14", "copy 0 0 0 1 3 = -12", "write 8 0 = -2", "write 0 3 = -11", "count 9 = -2",
    };

    private static final Checks checks = new Checks();

    public static void main(String[] args) {
        for (String asked : ASKED) {
            theSameAnswer(asked);
        }
        for (String refused : REFUSED) {
            theSameRefusal(refused);
        }
        typedAndUndone();
        typedAndWiped();
        eventsAndBack();
        eventsRead();
        aheads();
        seenAndForgotten();
        chancesOfChanges();
        weeksOfSeeds();
        newSheets();
        itemsPut();
        itemsCopied();
        roomsWritten();
        findings();
        twoHousesByTurns();
        checks.end();
    }

    /** One object, the number of its calls, and whether it has been used for as many as it may. */
    private static final class Run {
        final String name;
        final DollsAhead x = new DollsAhead();
        int made = 0;

        Run(String name) {
            this.name = name;
        }

        long ask(String call, int... in) {
            made++;
            return Calls.answer(x, call, in);
        }

        void due(long want, String call, int... in) {
            long got = ask(call, in);
            checks.due(name + ", call " + made + ": " + Calls.told(call, in), got, want);
        }

        void type(int text, String bytes) {
            for (char b : bytes.toCharArray()) {
                ask("type", text, b);
            }
        }

        /** Whether so many more calls may be made. */
        boolean has(int more) {
            return made + more <= MOST_CALLS;
        }

        /** The calls that are left are all this one. */
        void fillWith(long want, String call, int... in) {
            while (has(1)) {
                due(want, call, in);
            }
            checks.due(name + ": calls made", made, MOST_CALLS);
        }
    }

    private static Run house(String name, String doors, String people) {
        Run run = new Run(name);
        run.type(0, doors);
        run.type(1, people);
        return run;
    }

    private static Run fullHouse(String name) {
        Run run = house(name, "01;12;23;34;45;56;67;70;04;15;26;37", "g05;c16;h27;g30;c41;h52;g63;c74");
        int[] rooms = {5, 6, 1, 0, 1, 2, 3, 4};
        for (int e = 0; e < 8; e++) {
            run.ask("event", e % 2, 2 * e + 3, e);
            run.ask("seen", 7, e, rooms[e]);
        }
        run.ask("sheet", 0, 1, 3);
        run.ask("put", 0, 1, 2, -700);
        run.ask("sheet", 1, 2, 2);
        run.ask("get", 0, 1, 3);
        return run;
    }

    private static int[] numbers(String told) {
        String[] words = told.split(" ");
        int[] in = new int[words.length - 1];
        for (int i = 0; i < in.length; i++) {
            in[i] = Integer.parseInt(words[i + 1]);
        }
        return in;
    }

    private static void theSameAnswer(String asked) {
        String call = asked.split(" ")[0];
        int[] in = numbers(asked);
        long digest = fullHouse("a twin").ask("digest");
        Run run = fullHouse("the same answer");
        long first = run.ask(call, in);
        while (run.has(3)) {
            run.due(first, call, in);
        }
        run.due(digest, "digest");
        run.fillWith(first, call, in);
    }

    private static void theSameRefusal(String refused) {
        String[] told = refused.split(" = ");
        String call = told[0].split(" ")[0];
        int[] in = numbers(told[0]);
        long due = Long.parseLong(told[1]);
        long digest = fullHouse("a twin").ask("digest");
        Run run = fullHouse("the same refusal");
        while (run.has(3)) {
            run.due(due, call, in);
        }
        run.due(-700, "get", 0, 1, 2);
        run.fillWith(digest, "digest");
    }

    // ---- doors, people, events

    private static void typedAndUndone() {
        Run run = house("typed and undone", "01;02", "g01;g02");
        while (run.has(16)) {
            run.due(2, "at", 0, 1, 0);
            run.due(8, "type", 1, ';');
            run.due(8, "fault", 1);
            run.due(BAD, "at", 0, 1, 0);
            run.due(7, "undo", 1);
            run.due(4, "undo", 0);
            run.due(4, "fault", 0);
            run.due(0, "count", 0);
            run.due(NONE, "far", 0, 0, 1);
            run.due(0, "at", 0, 1, 0);
            run.due(5, "type", 0, '3');
            run.due(NONE, "fault", 0);
            run.due(1, "far", 0, 0, 3);
            run.due(0, "at", 0, 1, 0);
            run.due(4, "undo", 0);
            run.due(5, "type", 0, '2');
        }
        run.fillWith(2, "at", 23, 1, 0);
    }

    private static void typedAndWiped() {
        Run run = new Run("typed and wiped");
        for (int turn = 0; run.has(9); turn++) {
            int one = turn % 7;
            int other = one + 1;
            run.due(1, "type", 0, '0' + one);
            run.due(2, "type", 0, '0' + other);
            run.due(1, "type", 1, 'g');
            run.due(2, "type", 1, '0' + one);
            run.due(3, "type", 1, '0' + other);
            run.due(other, "at", 0, 0, 0);
            run.due(2, "wipe", 0);
            run.due(one, "at", 0, 0, 0);
            run.due(3, "wipe", 1);
        }
        run.fillWith(0, "count", 2);
    }

    private static void eventsAndBack() {
        Run run = house("events and back", STAR, "g00");
        for (int e = 1; e <= 7; e++) {
            run.due(e, "event", 1, 23, 0);
        }
        for (int turn = 0; run.has(7); turn++) {
            int room = 1 + turn % 7;
            int hour = turn % 22;
            run.due(8, "event", 0, hour, room);
            run.due(room, "at", hour, 0, 0);
            run.due(hour == 0 ? room : 0, "at", 0, 0, 0);
            run.due(FULL, "event", 0, 0, 0);
            run.due(8, "count", 4);
            run.due(7, "back");
            run.due(0, "at", 22, 0, 0);
        }
        run.fillWith(7, "count", 4);
        run = new Run("none to undo");
        run.fillWith(NOT, "back");
    }

    private static void eventsRead() {
        Run run = house("events read", STAR, "g00");
        run.due(9, "sheet", 2, 0, 9);
        run.due(1, "put", 2, 0, 5, 3);
        run.due(1, "put", 2, 0, 6, 2);
        while (run.has(5)) {
            // A HAM at 0 in 0 and one at 0 in 3; the third has no kind.
            run.due(2, "read", 2);
            run.due(3, "at", 0, 0, 0);
            run.due(1, "back");
            run.due(0, "at", 0, 0, 0);
            run.due(0, "back");
        }
        run.fillWith(0, "count", 4);
    }

    private static void aheads() {
        Run run = house("aheads", "01", "c01;h00");
        int was = 3;
        for (int turn = 0; run.has(6); turn++) {
            int v = 1 + turn * 4 % 9;
            boolean odd = v % 2 == 1;
            run.due(was, "ahead", v);
            run.due(odd ? 1 : 0, "at", 5, 1, 0);
            run.due(odd ? 1 : 0, "at", 5, 0, 1);
            run.due(odd ? 24 - v : 0, "found", 0);
            run.due(2, "lens", 0);
            run.due(BAD, "ahead", 0);
            was = v;
        }
        run.fillWith(2, "lens", 0);
    }

    // ---- seen, chance, weeks

    private static void seenAndForgotten() {
        Run run = house("seen and forgotten", STAR, "g00");
        run.due(1, "event", 0, 23, 0);
        for (int turn = 0; run.has(14); turn++) {
            int bed = turn % 8;
            for (int i = 1; i <= 8; i++) {
                run.due(i, "seen", 22, 0, bed);
            }
            run.due(FULL, "seen", 22, 0, bed);
            run.due(1 << bed, "was", 0, 1);
            run.due(bed == 0 ? 1 : 0, "never");
            run.due(8, "forget");
            run.due(255, "was", 0, 1);
            run.due(1, "never");
        }
        run.fillWith(0, "forget");
        run = new Run("seen once and forgotten");
        while (run.has(2)) {
            run.due(1, "seen", 23, 7, 7);
            run.due(1, "forget");
        }
        run.fillWith(1, "forget");
    }

    /** Above and below are asked between changes: what was weighed before must not come again. */
    private static void chancesOfChanges() {
        Run run = house("chances of changes", "01", "g00;g10");
        while (run.has(8)) {
            run.due(0, "chance", 4, 0, 23, 0);
            run.due(1, "event", 1, 0, 0);
            run.due(1, "chance", 4, 0, 23, 0);
            run.due(4, "chance", 4, 0, 23, 1);
            run.due(2, "event", 1, 0, 0);
            run.due(7, "chance", 4, 0, 23, 0);
            run.due(1, "back");
            run.due(0, "back");
        }
        run.fillWith(1, "chance", 4, 0, 23, 1);
    }

    private static void weeksOfSeeds() {
        String doors = "01;12;23;34;45;56;67;70";
        String people = "g05;c16;h27;g30;c41";
        Run run = house("weeks of seeds", doors, people);
        for (int turn = 0; run.has(1); turn++) {
            int seed = 1234567 * turn - 99;
            int want = Checks.house(doors, people).weeks(seed, turn % 9, turn % 2);
            run.due(want, "weeks", seed, turn % 9, turn % 2);
        }
        run.fillWith(0, "count", 4);
    }

    // ---- sheets

    private static void newSheets() {
        Run run = new Run("new sheets");
        int[] sizes = new int[4];
        for (int turn = 0; run.has(1); turn++) {
            int s = turn % 4;
            sizes[s] = turn * 7 % 61;
            run.due(sizes[s], "sheet", s, turn % 3, sizes[s]);
        }
        run = new Run("new and lost");
        for (int turn = 0; run.has(4); turn++) {
            int size = 1 + turn % 60;
            run.due(size, "sheet", 3, 2, size);
            run.due(0, "get", 3, 2, size - 1);
            run.due(1, "put", 3, 2, size - 1, turn + 1);
            run.due(size, "lose", 3);
        }
        run.fillWith(NULL, "lose", 3);
    }

    private static void itemsPut() {
        Run run = new Run("items put");
        run.due(60, "sheet", 0, 0, 60);
        run.due(60, "sheet", 1, 1, 60);
        for (int turn = 0; run.has(4); turn++) {
            int i = turn * 11 % 60;
            int v = 40503 * turn;
            run.due(1, "put", 0, 0, i, v);
            run.due(1, "put", 1, 1, i, v);
            run.due(Math.floorMod(v + 128, 256) - 128, "get", 0, 0, i);
            run.due(Math.floorMod(v + 32768, 65536) - 32768, "get", 1, 1, i);
        }
        run.fillWith(0, "count", 8);
    }

    private static void itemsCopied() {
        Run run = new Run("items copied");
        run.due(60, "sheet", 0, 2, 60);
        // Each turn all go on by one, and a new one comes in front.
        int turns = 0;
        while (run.has(3 + 60)) {
            turns++;
            run.due(1, "copy", 0, 0, 0, 1, 59);
            run.due(1, "put", 0, 2, 0, turns);
            run.due(Math.max(turns - 59, 0), "get", 0, 2, 59);
        }
        for (int i = 0; i < 60; i++) {
            run.due(turns - i, "get", 0, 2, i);
        }
        run.fillWith(turns, "get", 0, 2, 0);
    }

    private static void roomsWritten() {
        Run run = house("rooms written", STAR, "g00");
        run.due(60, "sheet", 0, 0, 60);
        for (int turn = 0; run.has(6); turn++) {
            int room = 1 + turn % 7;
            run.due(1, "event", 0, 1, room);
            run.due(24, "write", 0, 0);
            run.due(0, "get", 0, 0, 0);
            run.due(room, "get", 0, 0, 23);
            run.due(0, "get", 0, 0, 24);
            run.due(0, "back");
        }
        run.fillWith(60, "sheet", 0, 0, 60);
    }

    private static void findings() {
        Run run = new Run("findings");
        run.due(0, "count", 8);
        run.due(2, "sheet", 0, 0, 2);
        run.due(2, "sheet", 1, 1, 2);
        while (run.has(12)) {
            run.due(NULL, "read", 3);
            run.due(1, "count", 8);
            run.due(INDEX, "put", 0, 0, 2, 0);
            run.due(2, "count", 8);
            run.due(CAST, "put", 0, 1, 0, 0);
            run.due(3, "count", 8);
            run.due(STORE, "copy", 0, 0, 1, 0, 0);
            run.due(4, "count", 8);
            run.due(SIZE, "sheet", 0, 0, -1);
            run.due(5, "count", 8);
            run.due(LEAST, "get", 0, 0, -1);
            run.due(2, "count", 8);
        }
        run.fillWith(2, "count", 8);
    }

    // ---- two at once

    /** Nothing of one object is felt in another one. */
    private static void twoHousesByTurns() {
        Run one = house("the one", STAR, "g00;g11");
        Run other = house("the other", STAR, "g07");
        for (int turn = 0; one.has(8); turn++) {
            int room = 1 + turn % 6;
            one.due(1, "event", 0, 1, room);
            other.due(1, "seen", 5, 0, room);
            one.due(room, "at", 23, 0, 0);
            other.due(7, "at", 23, 0, 0);
            one.due(255, "was", 0, 1);
            other.due(1 << room, "was", 0, 1);
            one.due(room, "sheet", 0, 0, room);
            other.due(NULL, "lose", 0);
            one.due(0, "count", 8);
            other.due(1, "count", 8);
            one.due(2, "chance", 8, 0, 23, 1);
            other.due(1, "chance", 8, 0, 23, 1);
            one.due(0, "back");
            other.due(1, "forget");
            one.due(0, "count", 7);
            other.due(0, "count", 4);
        }
        one.fillWith(0, "at", 23, 0, 0);
        other.fillWith(7, "at", 23, 0, 0);
    }
}
