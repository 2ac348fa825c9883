import java.math.BigInteger;
import java.util.ArrayList;
import java.util.Arrays;
import java.util.List;

/**
 * The document once more, as slowly and plainly as it reads, to hold DollsAhead against.
 * It shares no code with it: distances by Floyd and Warshall, everything anew at each call.
 */
public final class PlainHouse {
    private static final int NONE = -1, BAD = -2, NOT = -3, FULL = -4;

    private record Event(int kind, int hour, int number) { }
    private record Person(char sort, int first, int bed) { }
    private record Sight(int hour, int person, int room) { }

    /** All that a week hangs on. */
    private record Case(String doors, List<Person> people, List<Event> events, int ahead) {
        Case with(int p, Person other) {
            List<Person> changed = new ArrayList<>(people);
            changed.set(p, other);
            return new Case(doors, changed, events, ahead);
        }

        Case by(List<Event> others) {
            return new Case(doors, people, others, ahead);
        }

        Case ahead(int v) {
            return new Case(doors, people, events, v);
        }
    }

    private final StringBuilder[] texts = {new StringBuilder(), new StringBuilder()};
    private final List<Event> events = new ArrayList<>();
    private final List<Sight> sights = new ArrayList<>();
    private final Object[] rows = new Object[4];
    private int ahead = 3;
    private int finding = 0;

    // ---- texts

    private static boolean in(int v, int from, int to) {
        return from <= v && v <= to;
    }

    public int type(int text, int b) {
        if (!in(text, 0, 1) || !in(b, 0, 255)) return BAD;
        if (texts[text].length() == (text == 0 ? 35 : 31)) return FULL;
        texts[text].append((char) b);
        return texts[text].length();
    }

    public int wipe(int text) {
        if (!in(text, 0, 1)) return BAD;
        int had = texts[text].length();
        texts[text].setLength(0);
        return had;
    }

    public int undo(int text) {
        if (!in(text, 0, 1)) return BAD;
        if (texts[text].length() == 0) return NOT;
        texts[text].setLength(texts[text].length() - 1);
        return texts[text].length();
    }

    public int fault(int text) {
        if (!in(text, 0, 1)) return BAD;
        String s = texts[text].toString();
        String whole = text == 0 ? "[0-7]{2}" : "[gch][0-7]{2}";
        if (s.isEmpty() || s.matches(whole + "(;" + whole + ")*") && !hasLoop(text, s)) return NONE;
        // The longest beginning that some well text begins with, too.
        for (int n = 0; n < s.length(); n++) {
            if (!canGoOn(text, s.substring(0, n + 1))) return n;
        }
        return s.length();
    }

    private static boolean hasLoop(int text, String s) {
        if (text == 1) return false;
        for (String door : s.split(";")) if (door.charAt(0) == door.charAt(1)) return true;
        return false;
    }

    private static boolean canGoOn(int text, String s) {
        int cut = s.lastIndexOf(';');
        String last = s.substring(cut + 1);
        String before = cut < 0 ? "" : s.substring(0, cut);
        String whole = text == 0 ? "[0-7]{2}" : "[gch][0-7]{2}";
        if (cut >= 0 && (!before.matches(whole + "(;" + whole + ")*") || hasLoop(text, before))) return false;
        if (text == 0) return last.matches("([0-7][0-7]?)?") && !(last.length() == 2 && hasLoop(0, last));
        return last.matches("([gch]([0-7][0-7]?)?)?");
    }

    private String doors() {
        return fault(0) == NONE ? texts[0].toString() : "";
    }

    private List<Person> people() {
        List<Person> all = new ArrayList<>();
        if (fault(1) == NONE && texts[1].length() > 0) {
            for (String p : texts[1].toString().split(";")) {
                all.add(new Person(p.charAt(0), p.charAt(1) - '0', p.charAt(2) - '0'));
            }
        }
        return all;
    }

    private static int doorCount(String doors) {
        return doors.isEmpty() ? 0 : doors.split(";").length;
    }

    public int door(int door, int what) {
        if (!in(door, 0, doorCount(doors()) - 1) || !in(what, 0, 1)) return BAD;
        return doors().split(";")[door].charAt(what) - '0';
    }

    private boolean isPerson(int p) {
        return in(p, 0, people().size() - 1);
    }

    public int person(int person, int what) {
        if (!isPerson(person) || !in(what, 0, 2)) return BAD;
        Person p = people().get(person);
        return what == 0 ? "gch".indexOf(p.sort) : what == 1 ? p.first : p.bed;
    }

    public int ahead(int v) {
        if (!in(v, 1, 9)) return BAD;
        int was = ahead;
        ahead = v;
        return was;
    }

    public int event(int kind, int hour, int number) {
        if (!in(kind, 0, 1) || !in(hour, 0, 23) || !in(number, 0, kind == 0 ? 7 : 11)) return BAD;
        if (events.size() == 8) return FULL;
        events.add(new Event(kind, hour, number));
        return events.size();
    }

    public int back() {
        if (events.isEmpty()) return NOT;
        events.remove(events.size() - 1);
        return events.size();
    }

    public int read(int s) {
        if (!in(s, 0, 3)) return BAD;
        if (rows[s] == null) return found(1, -10);
        int took = 0;
        while (3 * took + 3 <= size(s)) {
            if (event(item(s, 3 * took), item(s, 3 * took + 1), item(s, 3 * took + 2)) < 0) break;
            took++;
        }
        return took;
    }

    // ---- weeks

    private Case told() {
        return new Case(doors(), people(), events, ahead);
    }

    private static int[][] distances(Case c, int hour) {
        int[][] d = new int[8][8];
        for (int[] row : d) Arrays.fill(row, 99);
        for (int r = 0; r < 8; r++) d[r][r] = 0;
        for (int i = 0; i < doorCount(c.doors); i++) {
            boolean shut = false;
            for (Event e : c.events) shut |= e.kind == 1 && e.number == i && e.hour <= hour;
            int a = c.doors.charAt(3 * i) - '0';
            int b = c.doors.charAt(3 * i + 1) - '0';
            if (!shut) d[a][b] = d[b][a] = 1;
        }
        for (int k = 0; k < 8; k++)
            for (int i = 0; i < 8; i++)
                for (int j = 0; j < 8; j++) d[i][j] = Math.min(d[i][j], d[i][k] + d[k][j]);
        return d;
    }

    private static int ham(Case c, int hour) {
        int room = NONE;
        for (int h = 0; h <= hour; h++)
            for (Event e : c.events) if (e.kind == 0 && e.hour == h) room = e.number;
        return room;
    }

    private static int go(int[][] d, int from, int to) {
        if (from == to || d[from][to] >= 99) return from;
        for (int r = 0; r < 8; r++) if (d[from][r] == 1 && d[r][to] < d[from][to]) return r;
        throw new IllegalStateException("no way on");
    }

    /** where[hour][person]. */
    private static int[][] week(Case c) {
        int n = c.people.size();
        int[][] where = new int[24][n];
        int[][][] d = new int[24][][];
        for (int h = 0; h < 24; h++) d[h] = distances(c, h);
        int child = NONE;
        for (int p = 0; p < n; p++) {
            Person one = c.people.get(p);
            if (one.sort == 'c' && child == NONE) child = p;
            boolean toBed = true;
            int at = one.first;
            for (int h = 0; h < 24 && one.sort != 'h'; h++) {
                int aim = one.bed;
                if (one.sort == 'g' && ham(c, h) != NONE) aim = ham(c, h);
                if (one.sort == 'c' && !toBed) aim = one.first;
                at = go(d[h], at, aim);
                if (at == aim) toBed = !toBed;
                where[h][p] = at;
            }
        }
        for (int p = 0; p < n; p++) {
            Person one = c.people.get(p);
            int at = one.first;
            for (int h = 0; h < 24 && one.sort == 'h'; h++) {
                int aim = child == NONE ? one.bed : where[Math.min(23, h + c.ahead)][child];
                at = go(d[h], at, aim);
                where[h][p] = at;
            }
        }
        return where;
    }

    private static int bits(int[] row, int room) {
        int b = 0;
        for (int p = 0; p < row.length; p++) if (row[p] == room) b |= 1 << p;
        return b;
    }

    private static boolean lone(int[] row, int p) {
        return bits(row, row[p]) == 1 << p;
    }

    private static int loners(int[] row) {
        int b = 0;
        for (int p = 0; p < row.length; p++) if (lone(row, p)) b |= 1 << p;
        return b;
    }

    private static int most(int[] row) {
        int m = 0;
        for (int r = 0; r < 8; r++) m = Math.max(m, Integer.bitCount(bits(row, r)));
        return m;
    }

    // ---- hours

    public int at(int hour, int person, int what) {
        if (!in(hour, 0, 23) || !isPerson(person) || !in(what, 0, 1)) return BAD;
        int h = what == 0 ? hour : hour + ahead;
        return h > 23 ? NONE : week(told())[h][person];
    }

    public int room(int hour, int room) {
        if (!in(hour, 0, 23) || !in(room, 0, 7)) return BAD;
        return bits(week(told())[hour], room);
    }

    public int far(int hour, int one, int other) {
        if (!in(hour, 0, 23) || !in(one, 0, 7) || !in(other, 0, 7)) return BAD;
        int d = distances(told(), hour)[one][other];
        return d >= 99 ? NONE : d;
    }

    public int meet(int one, int other) {
        if (!isPerson(one) || !isPerson(other) || one == other) return BAD;
        int[][] w = week(told());
        for (int h = 0; h < 24; h++) if (w[h][one] == w[h][other]) return h;
        return NONE;
    }

    private static int emptyHours(int[][] w, int room) {
        int b = 0;
        for (int h = 0; h < 24; h++) if (bits(w[h], room) == 0) b |= 1 << h;
        return b;
    }

    public int empty(int room) {
        return in(room, 0, 7) ? emptyHours(week(told()), room) : BAD;
    }

    /** HOUR, housekeeper, child. */
    private static int[] firstFound(Case c) {
        int[][] w = week(c);
        for (int h = 0; h < 24; h++)
            for (int k = 0; k < c.people.size(); k++)
                for (int i = 0; i < c.people.size(); i++)
                    if (c.people.get(k).sort == 'h' && c.people.get(i).sort == 'c' && w[h][k] == w[h][i])
                        return new int[] {h, k, i};
        return new int[] {NONE, NONE, NONE};
    }

    public int found(int what) {
        return in(what, 0, 2) ? firstFound(told())[what] : BAD;
    }

    public int crowd(int what) {
        if (!in(what, 0, 2)) return BAD;
        int[][] w = week(told());
        int[] best = {0, 0, 0};
        for (int h = 0; h < 24; h++)
            for (int r = 0; r < 8; r++)
                if (Integer.bitCount(bits(w[h], r)) > best[2]) best = new int[] {h, r, Integer.bitCount(bits(w[h], r))};
        return best[what];
    }

    public int alone() {
        return loners(week(told())[23]);
    }

    // ---- plans

    private Case bedded(int person, int bed) {
        Person p = people().get(person);
        return told().with(person, new Person(p.sort, p.first, bed));
    }

    public int sleep(int person, int what) {
        if (!isPerson(person) || !in(what, 0, 1)) return BAD;
        int[] best = {NONE, NONE};
        for (int b = 0; b < 8; b++) {
            int n = 0;
            for (int[] row : week(bedded(person, b))) if (lone(row, person)) n++;
            if (n > best[1]) best = new int[] {b, n};
        }
        return best[what];
    }

    public int nice(int hour, int what) {
        if (!in(hour, 0, 23) || !in(what, 0, 1)) return BAD;
        int[] best = {NONE, NONE};
        for (int r = 0; r < 8; r++) {
            List<Event> more = new ArrayList<>(events);
            more.add(new Event(0, hour, r));
            int n = most(week(told().by(more))[23]);
            if (n > best[1]) best = new int[] {r, n};
        }
        return best[what];
    }

    public int lens(int what) {
        if (!in(what, 0, 1)) return BAD;
        int[] best = {NONE, 99};
        for (int v = 1; v <= 9; v++) {
            int h = firstFound(told().ahead(v))[0];
            if (h != NONE && h < best[1]) best = new int[] {v, h};
        }
        return best[0] == NONE ? NONE : best[what];
    }

    private List<Event> without(int bits) {
        List<Event> left = new ArrayList<>();
        for (int e = 0; e < events.size(); e++) if ((bits >> e & 1) == 0) left.add(events.get(e));
        return left;
    }

    public int spare(int i) {
        if (!in(i, -1, 1)) return BAD;
        List<int[]> rowsToTry = new ArrayList<>();
        rowsToTry.add(new int[] {});
        for (int a = 0; a < events.size(); a++) rowsToTry.add(new int[] {a});
        for (int a = 0; a < events.size(); a++)
            for (int b = a + 1; b < events.size(); b++) rowsToTry.add(new int[] {a, b});
        for (int[] row : rowsToTry) {
            int bits = 0;
            for (int e : row) bits |= 1 << e;
            if (loners(week(told().by(without(bits)))[23]) == 0) {
                return i == NONE ? row.length : i < row.length ? row[i] : NONE;
            }
        }
        return NONE;
    }

    // ---- seen, chance, weeks

    public int seen(int hour, int person, int room) {
        if (!in(hour, 0, 23) || !in(person, 0, 7) || !in(room, 0, 7)) return BAD;
        if (sights.size() == 8) return FULL;
        sights.add(new Sight(hour, person, room));
        return sights.size();
    }

    public int forget() {
        int had = sights.size();
        sights.clear();
        return had;
    }

    private boolean comesOut(Case c) {
        int[][] w = week(c);
        for (Sight s : sights) {
            if (s.person >= c.people.size() || w[s.hour][s.person] != s.room) return false;
        }
        return true;
    }

    public int never() {
        int b = 0;
        for (int e = 0; e < events.size(); e++) if (comesOut(told().by(without(1 << e)))) b |= 1 << e;
        return b;
    }

    public int was(int person, int what) {
        if (!isPerson(person) || !in(what, 0, 1)) return BAD;
        Person p = people().get(person);
        int b = 0;
        for (int v = 0; v < (what == 0 ? 3 : 8); v++) {
            Person other = what == 0 ? new Person("gch".charAt(v), p.first, p.bed) : new Person(p.sort, p.first, v);
            if (comesOut(told().with(person, other))) b |= 1 << v;
        }
        return b;
    }

    public int ask(int person) {
        if (!isPerson(person)) return BAD;
        int beds = was(person, 1);
        int best = 0;
        int least = 99;
        for (int h = 0; h < 24; h++) {
            int[] n = new int[8];
            for (int b = 0; b < 8; b++) if ((beds >> b & 1) != 0) n[week(bedded(person, b))[h][person]]++;
            int m = Arrays.stream(n).max().getAsInt();
            if (m < least) {
                least = m;
                best = h;
            }
        }
        return best;
    }

    public long chance(int c, int person, int hour, int what) {
        if (!in(c, 0, 16) || !isPerson(person) || !in(hour, 0, 23) || !in(what, 0, 1)) return Long.MIN_VALUE + 2;
        BigInteger above = BigInteger.ZERO;
        for (int absent = 0; absent < 1 << events.size(); absent++) {
            int n = Integer.bitCount(absent);
            BigInteger weight = BigInteger.valueOf(c).pow(events.size() - n).multiply(BigInteger.valueOf(16 - c).pow(n));
            if (lone(week(told().by(without(absent)))[hour], person)) above = above.add(weight);
        }
        BigInteger below = BigInteger.valueOf(16).pow(events.size());
        BigInteger common = above.gcd(below);
        return (what == 0 ? above : below).divide(common).longValueExact();
    }

    public int weeks(int seed, int n, int what) {
        if (!in(n, 0, 8) || !in(what, 0, 1)) return BAD;
        List<Event> drawn = new ArrayList<>();
        int s = seed;
        for (int e = 0; e < n; e++) {
            int[] lot = new int[3];
            for (int i = 0; i < 3; i++) {
                s = s * 1103515245 + 12345;
                lot[i] = (int) ((s & 0xffffffffL) / 65536 % new int[] {2, 24, 8}[i]);
            }
            drawn.add(new Event(lot[0], lot[1], lot[2]));
        }
        int[][] w = week(told().by(drawn));
        return Integer.bitCount(what == 0 ? loners(w[23]) : emptyHours(w, 0));
    }

    // ---- sheets

    private int found(int number, int base) {
        finding = number;
        return base - number;
    }

    private int size(int s) {
        return java.lang.reflect.Array.getLength(rows[s]);
    }

    private int form(int s) {
        return rows[s] instanceof byte[] ? 0 : rows[s] instanceof short[] ? 1 : 2;
    }

    private int item(int s, int i) {
        return java.lang.reflect.Array.getInt(rows[s], i);
    }

    private void lay(int s, int i, int v) {
        if (rows[s] instanceof byte[] b) b[i] = (byte) v;
        else if (rows[s] instanceof short[] t) t[i] = (short) v;
        else if (rows[s] instanceof int[] n) n[i] = v;
    }

    public int sheet(int s, int form, int n) {
        if (!in(s, 0, 3) || !in(form, 0, 2) || n > 60) return BAD;
        if (n < 0) return found(5, -10);
        rows[s] = form == 0 ? new byte[n] : form == 1 ? new short[n] : new int[n];
        return n;
    }

    public int lose(int s) {
        if (!in(s, 0, 3)) return BAD;
        if (rows[s] == null) return found(1, -10);
        int had = size(s);
        rows[s] = null;
        return had;
    }

    private int noItem(int s, int form, int i) {
        if (!in(s, 0, 3) || !in(form, 0, 2)) return BAD;
        if (rows[s] == null) return found(1, -10);
        if (form(s) != form) return found(3, -10);
        return in(i, 0, size(s) - 1) ? 0 : found(2, -10);
    }

    public int put(int s, int form, int i, int v) {
        int no = noItem(s, form, i);
        if (no != 0) return no;
        lay(s, i, v);
        return 1;
    }

    public int get(int s, int form, int i) {
        return noItem(s, form, i) != 0 ? Integer.MIN_VALUE : item(s, i);
    }

    public int copy(int s, int i, int t, int j, int n) {
        if (!in(s, 0, 3) || !in(t, 0, 3)) return BAD;
        if (rows[s] == null || rows[t] == null) return found(1, -10);
        if (form(s) != form(t)) return found(4, -10);
        try {
            System.arraycopy(rows[s], i, rows[t], j, n);
        } catch (IndexOutOfBoundsException e) {
            return found(2, -10);
        }
        return 1;
    }

    public int write(int person, int s) {
        if (!isPerson(person) || !in(s, 0, 3)) return BAD;
        if (rows[s] == null) return found(1, -10);
        int n = 0;
        for (; n < 24 && n < size(s); n++) lay(s, n, week(told())[n][person]);
        return n;
    }

    public int count(int what) {
        int all = 0;
        for (int r = 0; r < 8; r++) all += Integer.bitCount(empty(r));
        int[] answers = {doorCount(doors()), people().size(), texts[0].length(), texts[1].length(),
            events.size(), Integer.bitCount(alone()), all, sights.size(), finding};
        return in(what, 0, 8) ? answers[what] : BAD;
    }

    public long digest() {
        List<Long> all = new ArrayList<>();
        for (int w = 0; w < 8; w++) all.add((long) count(w));
        for (int t = 0; t < 2; t++) all.add((long) fault(t));
        for (int d = 0; d < count(0); d++) for (int w = 0; w < 2; w++) all.add((long) door(d, w));
        for (int r = 0; r < 8; r++) for (int v : new int[] {empty(r), far(9, r, 0), far(23, r, 5)}) all.add((long) v);
        for (int p = 0; p < count(1); p++) {
            for (int w = 0; w < 3; w++) all.add((long) person(p, w));
            for (int h : new int[] {0, 5, 12, 23}) for (int w = 0; w < 2; w++) all.add((long) at(h, p, w));
            for (int v : new int[] {sleep(p, 0), sleep(p, 1), was(p, 0), was(p, 1), ask(p)}) all.add((long) v);
            for (int w = 0; w < 2; w++) all.add(chance(5, p, 14, w));
            all.add(p == 0 ? 0L : meet(0, p));
        }
        for (int w = 0; w < 3; w++) all.add((long) found(w));
        for (int w = 0; w < 3; w++) all.add((long) crowd(w));
        for (int v : new int[] {alone(), nice(8, 0), nice(8, 1), lens(0), lens(1), spare(-1), spare(0), never(),
            weeks(7, 6, 0), weeks(7, 6, 1)}) all.add((long) v);
        long h = 17;
        for (long v : all) h = 31 * h + v;
        return h;
    }
}
