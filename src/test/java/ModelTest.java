import java.util.ArrayList;
import java.util.List;
import java.util.Random;
import java.util.Set;

/**
 * Rows of calls by fixed seeds, on DollsAhead and on PlainHouse: each answer must be the same. Most rows are short;
 * some are of as many calls as an object is used for.
 */
public final class ModelTest {
    private static final int RUNS = 200, SHORT = 260, LONG_RUNS = 40, MOST_CALLS = 512, MOST_SHOWN = 20;
    // Both texts are wiped, up to 35 and 31 bytes come, and up to as many again.
    private static final int MOST_STEP = 2 * 36 + 36;
    private static final String[] NAMES = {"type", "wipe", "undo", "fault", "door", "person", "ahead", "event", "back",
        "read", "at", "room", "far", "meet", "empty", "found", "crowd", "alone", "sleep", "nice", "lens", "spare",
        "seen", "forget", "never", "was", "ask", "chance", "weeks",
        "sheet", "lose", "put", "get", "copy", "write", "count"};
    // They undo much, or the plain house is long about it.
    private static final Set<String> RARE = Set.of("type", "wipe", "undo", "lose", "forget", "chance");
    private static final int[] WILD = {-1, -2, 8, 9, 12, 24, 60, 61, 256, Integer.MAX_VALUE, Integer.MIN_VALUE};

    private final Random random;
    private final DollsAhead house = new DollsAhead();
    private final PlainHouse plain = new PlainHouse();
    private final List<String> calls = new ArrayList<>();
    private int wrong = 0;

    private ModelTest(long seed) {
        random = new Random(seed);
    }

    public static void main(String[] args) {
        int wrong = 0;
        for (int seed = 0; seed < RUNS + LONG_RUNS && wrong < MOST_SHOWN; seed++) {
            ModelTest run = new ModelTest(seed);
            run.goOn(seed < RUNS ? SHORT : MOST_CALLS);
            wrong += run.wrong;
        }
        System.out.println(RUNS + " runs and " + LONG_RUNS + " of " + MOST_CALLS
            + " calls held against the plain house, " + wrong + " answers unlike");
        if (wrong != 0) {
            System.exit(1);
        }
    }

    private void goOn(int most) {
        typeDoors(random.nextInt(13));
        typePeople(random.nextInt(9));
        for (int e = random.nextInt(7); e > 0; e--) {
            int kind = random.nextInt(2);
            call("event", kind, random.nextInt(24), random.nextInt(kind == 0 ? 8 : 12));
        }
        call("ahead", 1 + random.nextInt(9));
        while (calls.size() + MOST_STEP < most && wrong == 0) {
            for (int text = 0; text <= 1; text++) {
                if (plain.fault(text) != DollsAhead.NONE && random.nextInt(6) == 0) {
                    retype(text);
                }
            }
            step(NAMES[random.nextInt(NAMES.length)]);
        }
        String[] asked = {"fault", "at", "room", "far", "meet", "empty", "found", "crowd", "alone", "get", "count"};
        while (calls.size() < most - 1 && wrong == 0) {
            String name = asked[random.nextInt(asked.length)];
            call(name, arguments(name));
        }
        call("digest");
    }

    private void step(String name) {
        if (name.equals("seen") && random.nextBoolean()) {
            seeWhatIs();
        } else if (name.equals("event") && random.nextBoolean()) {
            call("event", random.nextInt(2), random.nextInt(24), random.nextInt(8));
        } else if (name.equals("type") && random.nextInt(4) == 0) {
            retype(random.nextInt(2));
        } else if (!RARE.contains(name) || random.nextInt(4) == 0) {
            call(name, arguments(name));
        }
    }

    private void typeDoors(int many) {
        for (int d = 0; d < many; d++) {
            int one = random.nextInt(8);
            int other = (one + 1 + random.nextInt(7)) % 8;
            typeAll(0, (d == 0 ? "" : ";") + one + other);
        }
    }

    private void typePeople(int many) {
        for (int p = 0; p < many; p++) {
            typeAll(1, (p == 0 ? "" : ";") + "gch".charAt(random.nextInt(3)) + random.nextInt(8) + random.nextInt(8));
        }
    }

    private void retype(int text) {
        call("wipe", text);
        if (text == 0) {
            typeDoors(random.nextInt(13));
        } else {
            typePeople(random.nextInt(9));
        }
    }

    private void typeAll(int text, String bytes) {
        for (char b : bytes.toCharArray()) {
            call("type", text, b);
        }
    }

    private void seeWhatIs() {
        int hour = random.nextInt(24);
        int person = random.nextInt(8);
        call("seen", hour, person, Math.max(0, plain.at(hour, person, 0)));
    }

    private int[] arguments(String name) {
        int[] in = new int[parameters(name)];
        for (int i = 0; i < in.length; i++) {
            in[i] = random.nextInt(40) == 0 ? WILD[random.nextInt(WILD.length)] : likely(name, i);
        }
        // A SHEET has mostly the FORM of its number, so that few items are refused for it.
        if (Set.of("sheet", "put", "get").contains(name) && random.nextInt(8) != 0) {
            in[1] = Math.floorMod(in[0], 3);
        }
        return in;
    }

    private int likely(String name, int i) {
        switch (name + i) {
            case "type1": return "01234567;gchx8 ".charAt(random.nextInt(15));
            case "at0", "room0", "far0", "nice0", "seen0", "chance2", "event1": return random.nextInt(24);
            case "chance0": return random.nextInt(17);
            case "put3": return random.nextInt(random.nextBoolean() ? 8 : Integer.MAX_VALUE);
            case "weeks0": return random.nextInt();
            case "weeks1", "count0": return random.nextInt(9);
            case "ahead0": return 1 + random.nextInt(9);
            case "spare0": return random.nextInt(3) - 1;
            case "sheet2": return random.nextInt(61);
            case "put2", "get2": return random.nextInt(random.nextBoolean() ? 6 : 40);
            case "copy1", "copy3", "copy4": return random.nextInt(14);
            case "put0", "get0", "copy0", "copy2", "write1", "read0", "lose0", "sheet0": return random.nextInt(4);
            case "far1", "far2", "room1", "empty0", "seen1", "seen2", "event2", "door0": return random.nextInt(8);
            case "person0", "at1", "meet0", "meet1", "sleep0", "was0", "ask0", "chance1", "write0": return random.nextInt(6);
            case "person1", "found0", "crowd0", "put1", "get1", "sheet1": return random.nextInt(3);
            default: return random.nextInt(2);
        }
    }

    private static int parameters(String name) {
        return Calls.method(DollsAhead.class, name).getParameterCount();
    }

    private void call(String name, int... in) {
        calls.add(Calls.told(name, in));
        long want = Calls.answer(plain, name, in);
        long got;
        try {
            got = Calls.answer(house, name, in);
        } catch (IllegalStateException e) {
            System.out.println(e.getMessage());
            got = want + 1;
        }
        if (got != want) {
            wrong++;
            System.out.println(calls + " answered " + got + ", due is " + want);
        }
    }
}
