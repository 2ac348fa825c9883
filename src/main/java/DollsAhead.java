import java.util.Arrays;

/** A house, and the dolls' house in its attic that is some hours ahead of it. */
public final class DollsAhead {
    public static final int NONE = -1, BAD = -2, NOT = -3, FULL = -4;

    private static final int ROOMS = 8, MOST_PEOPLE = 8, HOURS = 24, LAST_HOUR = 23;
    private static final int MOST_EVENTS = 8, MOST_SEEN = 8, MOST_AHEAD = 9, FIRST_AHEAD = 3;
    private static final int DOOR_BYTES = 35, PEOPLE_BYTES = 31, MOST_DOORS = 12;
    private static final int SHEETS = 4, FORMS = 3, MOST_ITEMS = 60;
    private static final int FORM_BYTES = 0, FORM_SHORTS = 1;
    private static final int GUEST = 0, CHILD = 1, HOUSEKEEPER = 2, SORTS = 3;
    private static final int HAM = 0, SHUT = 1;
    private static final int NULL = 1, INDEX = 2, CAST = 3, STORE = 4, SIZE = 5;
    private static final int SIXTEENTHS = 16;

    private final Doors doors;
    private final People people;
    private final Events told;
    // NICE has one EVENT more, WEEKS has others: both are laid here, so that those told stay.
    private final Events supposed;
    private final Lots lots;
    private final Sights sights;
    private final Sheet[] sheets;
    private final Week now;
    private final Week trial;
    private final int[] paths;
    private final int[] crowds;
    private final long[] odds;
    private int lead;
    private int finding;
    private boolean nowStands;
    private int oddsSixteenths;
    private int oddsHour;

    public DollsAhead() {
        doors = new Doors();
        people = new People();
        told = new Events();
        supposed = new Events();
        lots = new Lots();
        sights = new Sights();
        sheets = new Sheet[SHEETS];
        for (int s = 0; s < SHEETS; s++) {
            sheets[s] = new Sheet();
        }
        now = new Week(doors, people, told);
        trial = new Week(doors, people, told);
        paths = new int[ROOMS * HOURS];
        crowds = new int[ROOMS];
        odds = new long[MOST_PEOPLE];
        lead = FIRST_AHEAD;
        finding = 0;
        nowStands = false;
        oddsSixteenths = NONE;
        oddsHour = NONE;
    }

    // ---- doors, people, events

    public int type(int text, int b) {
        Text it = textOf(text);
        if (it == null || !within(b, 0, 255)) {
            return BAD;
        }
        if (it.isFull()) {
            return FULL;
        }
        it.add(b);
        textChanged();
        return it.size;
    }

    public int wipe(int text) {
        Text it = textOf(text);
        if (it == null) {
            return BAD;
        }
        int had = it.size;
        it.shorten(0);
        textChanged();
        return had;
    }

    public int undo(int text) {
        Text it = textOf(text);
        if (it == null) {
            return BAD;
        }
        if (it.size == 0) {
            return NOT;
        }
        it.shorten(it.size - 1);
        textChanged();
        return it.size;
    }

    public int fault(int text) {
        Text it = textOf(text);
        return it == null ? BAD : it.faultPlace;
    }

    public int door(int door, int what) {
        if (!within(door, 0, doors.many - 1) || !within(what, 0, 1)) {
            return BAD;
        }
        return what == 0 ? doors.ones[door] : doors.others[door];
    }

    public int person(int person, int what) {
        if (!isPerson(person) || !within(what, 0, 2)) {
            return BAD;
        }
        if (what == 0) {
            return people.sorts[person];
        }
        return what == 1 ? people.starts[person] : people.beds[person];
    }

    public int ahead(int v) {
        if (!within(v, 1, MOST_AHEAD)) {
            return BAD;
        }
        int was = lead;
        lead = v;
        changed();
        return was;
    }

    public int event(int kind, int hour, int number) {
        if (!isEvent(kind, hour, number)) {
            return BAD;
        }
        if (told.size >= MOST_EVENTS) {
            return FULL;
        }
        told.add(kind, hour, number);
        changed();
        return told.size;
    }

    public int back() {
        if (told.size == 0) {
            return NOT;
        }
        told.size--;
        changed();
        return told.size;
    }

    public int read(int s) {
        if (!isSheet(s)) {
            return BAD;
        }
        Sheet from = sheets[s];
        if (from.isLost()) {
            return refuse(NULL);
        }
        int took = 0;
        for (int i = 0; i + 2 < from.size; i += 3) {
            if (event(from.items[i], from.items[i + 1], from.items[i + 2]) < 0) {
                break;
            }
            took++;
        }
        return took;
    }

    // ---- hours

    public int at(int hour, int person, int what) {
        if (!isHour(hour) || !isPerson(person) || !within(what, 0, 1)) {
            return BAD;
        }
        int shown = what == 0 ? hour : hour + lead;
        return shown > LAST_HOUR ? NONE : weekAsTold().roomOf(shown, person);
    }

    public int room(int hour, int room) {
        if (!isHour(hour) || !isRoom(room)) {
            return BAD;
        }
        return weekAsTold().whoIn(hour, room);
    }

    public int far(int hour, int one, int other) {
        if (!isHour(hour) || !isRoom(one) || !isRoom(other)) {
            return BAD;
        }
        return weekAsTold().doorsBetween(hour, one, other);
    }

    public int meet(int one, int other) {
        if (!isPerson(one) || !isPerson(other) || one == other) {
            return BAD;
        }
        Week week = weekAsTold();
        for (int h = 0; h < HOURS; h++) {
            if (week.roomOf(h, one) == week.roomOf(h, other)) {
                return h;
            }
        }
        return NONE;
    }

    public int empty(int room) {
        return isRoom(room) ? weekAsTold().emptyHours(room) : BAD;
    }

    public int found(int what) {
        if (!within(what, 0, 2)) {
            return BAD;
        }
        Week week = weekAsTold();
        int hour = week.findingHour();
        if (what == 0 || hour == NONE) {
            return hour;
        }
        int keeper = week.finder(hour);
        return what == 1 ? keeper : week.childWith(hour, keeper);
    }

    public int crowd(int what) {
        if (!within(what, 0, 2)) {
            return BAD;
        }
        Week week = weekAsTold();
        int hour = 0;
        for (int h = 1; h < HOURS; h++) {
            if (week.mostIn(h) > week.mostIn(hour)) {
                hour = h;
            }
        }
        if (what == 0) {
            return hour;
        }
        int most = week.mostIn(hour);
        return what == 2 ? most : week.firstRoomOf(hour, most);
    }

    public int alone() {
        return weekAsTold().aloneBehind(LAST_HOUR);
    }

    // ---- plans

    public int sleep(int person, int what) {
        if (!isPerson(person) || !within(what, 0, 1)) {
            return BAD;
        }
        int best = 0;
        int most = NONE;
        for (int bed = 0; bed < ROOMS; bed++) {
            trial.suppose(person, NONE, bed);
            trial.runWith(told, 0, lead);
            int hours = trial.hoursAlone(person);
            if (hours > most) {
                best = bed;
                most = hours;
            }
        }
        trial.suppose(NONE, NONE, NONE);
        return what == 0 ? best : most;
    }

    public int nice(int hour, int what) {
        if (!isHour(hour) || !within(what, 0, 1)) {
            return BAD;
        }
        int best = 0;
        int most = NONE;
        for (int room = 0; room < ROOMS; room++) {
            supposed.become(told);
            supposed.add(HAM, hour, room);
            trial.runWith(supposed, 0, lead);
            int many = trial.mostIn(LAST_HOUR);
            if (many > most) {
                best = room;
                most = many;
            }
        }
        return what == 0 ? best : most;
    }

    public int lens(int what) {
        if (!within(what, 0, 1)) {
            return BAD;
        }
        int best = NONE;
        int soonest = NONE;
        for (int v = 1; v <= MOST_AHEAD; v++) {
            trial.runWith(told, 0, v);
            int hour = trial.findingHour();
            if (hour != NONE && (soonest == NONE || hour < soonest)) {
                best = v;
                soonest = hour;
            }
        }
        return what == 0 ? best : soonest;
    }

    public int spare(int i) {
        if (!within(i, NONE, 1)) {
            return BAD;
        }
        int row = sparedRow();
        if (row == NONE) {
            return NONE;
        }
        return i == NONE ? Integer.bitCount(row) : placeOfBit(row, i);
    }

    // ---- seen, chance, weeks

    public int seen(int hour, int person, int room) {
        if (!isHour(hour) || !within(person, 0, MOST_PEOPLE - 1) || !isRoom(room)) {
            return BAD;
        }
        if (sights.size >= MOST_SEEN) {
            return FULL;
        }
        sights.add(hour, person, room);
        return sights.size;
    }

    public int forget() {
        int had = sights.size;
        sights.size = 0;
        return had;
    }

    public int never() {
        int bits = 0;
        for (int e = 0; e < told.size; e++) {
            trial.runWith(told, 1 << e, lead);
            if (sights.allIn(trial)) {
                bits |= 1 << e;
            }
        }
        return bits;
    }

    public int was(int person, int what) {
        if (!isPerson(person) || !within(what, 0, 1)) {
            return BAD;
        }
        return what == 0 ? sortsThatFit(person) : bedsThatFit(person);
    }

    public int ask(int person) {
        if (!isPerson(person)) {
            return BAD;
        }
        int beds = bedsThatFit(person);
        int best = 0;
        int least = ROOMS + 1;
        for (int h = 0; h < HOURS; h++) {
            int most = mostBedsInOneRoom(h, beds);
            if (most < least) {
                best = h;
                least = most;
            }
        }
        return best;
    }

    public long chance(int c, int person, int hour, int what) {
        boolean isTold = within(c, 0, SIXTEENTHS) && isPerson(person) && isHour(hour);
        if (!isTold || !within(what, 0, 1)) {
            return Long.MIN_VALUE - BAD;
        }
        weighOdds(c, hour);
        long above = odds[person];
        // The whole is a power of 2, so halving is all that lowest terms ask for.
        int halvings = 4 * told.size;
        for (int i = 4 * told.size; i > 0 && (above & 1) == 0; i--) {
            above >>= 1;
            halvings--;
        }
        return what == 0 ? above : 1L << halvings;
    }

    public int weeks(int seed, int n, int what) {
        if (!within(n, 0, MOST_EVENTS) || !within(what, 0, 1)) {
            return BAD;
        }
        lots.seed = seed;
        supposed.size = 0;
        for (int e = 0; e < n; e++) {
            int kind = lots.draw(2);
            int hour = lots.draw(HOURS);
            supposed.add(kind, hour, lots.draw(ROOMS));
        }
        trial.runWith(supposed, 0, lead);
        return Integer.bitCount(what == 0 ? trial.aloneBehind(LAST_HOUR) : trial.emptyHours(0));
    }

    // ---- sheets

    public int sheet(int s, int form, int n) {
        if (!isSheet(s) || !isForm(form) || n > MOST_ITEMS) {
            return BAD;
        }
        if (n < 0) {
            return refuse(SIZE);
        }
        sheets[s].become(form, n);
        return n;
    }

    public int lose(int s) {
        if (!isSheet(s)) {
            return BAD;
        }
        Sheet it = sheets[s];
        if (it.isLost()) {
            return refuse(NULL);
        }
        int had = it.size;
        it.size = NONE;
        return had;
    }

    public int put(int s, int form, int i, int v) {
        int no = refusalOfItem(s, form, i);
        if (no < 0) {
            return no;
        }
        sheets[s].lay(i, v);
        return 1;
    }

    public int get(int s, int form, int i) {
        return refusalOfItem(s, form, i) < 0 ? Integer.MIN_VALUE : sheets[s].items[i];
    }

    public int copy(int s, int i, int t, int j, int n) {
        if (!isSheet(s) || !isSheet(t)) {
            return BAD;
        }
        Sheet from = sheets[s];
        Sheet to = sheets[t];
        if (from.isLost() || to.isLost()) {
            return refuse(NULL);
        }
        if (from.form != to.form) {
            return refuse(STORE);
        }
        if (!from.holds(i, n) || !to.holds(j, n)) {
            return refuse(INDEX);
        }
        System.arraycopy(from.items, i, to.items, j, n);
        return 1;
    }

    public int write(int person, int s) {
        if (!isPerson(person) || !isSheet(s)) {
            return BAD;
        }
        Sheet to = sheets[s];
        if (to.isLost()) {
            return refuse(NULL);
        }
        Week week = weekAsTold();
        int many = Math.min(to.size, HOURS);
        for (int h = 0; h < many; h++) {
            to.lay(h, week.roomOf(h, person));
        }
        return many;
    }

    public int count(int what) {
        switch (what) {
            case 0: return doors.many;
            case 1: return people.many;
            case 2: return doors.size;
            case 3: return people.size;
            case 4: return told.size;
            case 5: return Integer.bitCount(alone());
            case 6: return emptyHoursOfAll();
            case 7: return sights.size;
            case 8: return finding;
            default: return BAD;
        }
    }

    public long digest() {
        long h = 17;
        for (int what = 0; what <= 7; what++) {
            h = mix(h, count(what));
        }
        h = mix(mix(h, fault(0)), fault(1));
        for (int d = 0; d < doors.many; d++) {
            h = mix(mix(h, door(d, 0)), door(d, 1));
        }
        for (int r = 0; r < ROOMS; r++) {
            h = mix(mix(mix(h, empty(r)), far(9, r, 0)), far(23, r, 5));
        }
        for (int p = 0; p < people.many; p++) {
            h = mixGuesses(mixStays(h, p), p);
        }
        for (int what = 0; what <= 2; what++) {
            h = mix(h, found(what));
        }
        for (int what = 0; what <= 2; what++) {
            h = mix(h, crowd(what));
        }
        h = mix(h, alone());
        h = mix(mix(h, nice(8, 0)), nice(8, 1));
        h = mix(mix(h, lens(0)), lens(1));
        h = mix(mix(h, spare(NONE)), spare(0));
        h = mix(h, never());
        return mix(mix(h, weeks(7, 6, 0)), weeks(7, 6, 1));
    }

    // ---- parts of the digest

    private static long mix(long h, long more) {
        return 31 * h + more;
    }

    private long mixStays(long before, int p) {
        long h = before;
        for (int what = 0; what <= 2; what++) {
            h = mix(h, person(p, what));
        }
        h = mix(mix(h, at(0, p, 0)), at(0, p, 1));
        h = mix(mix(h, at(5, p, 0)), at(5, p, 1));
        h = mix(mix(h, at(12, p, 0)), at(12, p, 1));
        return mix(mix(h, at(23, p, 0)), at(23, p, 1));
    }

    private long mixGuesses(long before, int p) {
        long h = mix(mix(before, sleep(p, 0)), sleep(p, 1));
        h = mix(mix(h, was(p, 0)), was(p, 1));
        h = mix(h, ask(p));
        h = mix(mix(h, chance(5, p, 14, 0)), chance(5, p, 14, 1));
        return mix(h, p == 0 ? 0 : meet(0, p));
    }

    // ---- what is as told

    private static boolean within(int v, int least, int most) {
        return v >= least && v <= most;
    }

    private static boolean isHour(int hour) {
        return within(hour, 0, LAST_HOUR);
    }

    private static boolean isRoom(int room) {
        return within(room, 0, ROOMS - 1);
    }

    private static boolean isSheet(int s) {
        return within(s, 0, SHEETS - 1);
    }

    private static boolean isForm(int form) {
        return within(form, 0, FORMS - 1);
    }

    private static boolean isEvent(int kind, int hour, int number) {
        int most = kind == HAM ? ROOMS - 1 : MOST_DOORS - 1;
        return within(kind, HAM, SHUT) && isHour(hour) && within(number, 0, most);
    }

    private boolean isPerson(int person) {
        return within(person, 0, people.many - 1);
    }

    private Text textOf(int text) {
        if (text == 0) {
            return doors;
        }
        return text == 1 ? people : null;
    }

    // ---- weeks as they are and as they might be

    private void textChanged() {
        now.forgetSteps();
        trial.forgetSteps();
        changed();
    }

    private void changed() {
        nowStands = false;
        oddsHour = NONE;
    }

    private Week weekAsTold() {
        if (!nowStands) {
            now.runWith(told, 0, lead);
            nowStands = true;
        }
        return now;
    }

    private int emptyHoursOfAll() {
        Week week = weekAsTold();
        int all = 0;
        for (int r = 0; r < ROOMS; r++) {
            all += Integer.bitCount(week.emptyHours(r));
        }
        return all;
    }

    /** The least row of the fewest EVENTS without which nobody is ALONE, as bits; NONE. */
    private int sparedRow() {
        if (nobodyAloneWithout(0)) {
            return 0;
        }
        for (int one = 0; one < told.size; one++) {
            if (nobodyAloneWithout(1 << one)) {
                return 1 << one;
            }
        }
        for (int one = 0; one < told.size; one++) {
            for (int other = one + 1; other < told.size; other++) {
                if (nobodyAloneWithout(1 << one | 1 << other)) {
                    return 1 << one | 1 << other;
                }
            }
        }
        return NONE;
    }

    private boolean nobodyAloneWithout(int without) {
        trial.runWith(told, without, lead);
        return trial.aloneBehind(LAST_HOUR) == 0;
    }

    private static int placeOfBit(int bits, int which) {
        int left = which;
        for (int place = 0; place < MOST_EVENTS; place++) {
            if ((bits >> place & 1) != 0 && left-- == 0) {
                return place;
            }
        }
        return NONE;
    }

    private int sortsThatFit(int person) {
        int bits = 0;
        for (int sort = 0; sort < SORTS; sort++) {
            trial.suppose(person, sort, NONE);
            trial.runWith(told, 0, lead);
            if (sights.allIn(trial)) {
                bits |= 1 << sort;
            }
        }
        trial.suppose(NONE, NONE, NONE);
        return bits;
    }

    /** Keeps in paths where the person would be by each bed, for those who ask further. */
    private int bedsThatFit(int person) {
        int bits = 0;
        for (int bed = 0; bed < ROOMS; bed++) {
            trial.suppose(person, NONE, bed);
            trial.runWith(told, 0, lead);
            if (sights.allIn(trial)) {
                bits |= 1 << bed;
            }
            for (int h = 0; h < HOURS; h++) {
                paths[bed * HOURS + h] = trial.roomOf(h, person);
            }
        }
        trial.suppose(NONE, NONE, NONE);
        return bits;
    }

    private int mostBedsInOneRoom(int hour, int beds) {
        Arrays.fill(crowds, 0);
        int most = 0;
        for (int bed = 0; bed < ROOMS; bed++) {
            if ((beds >> bed & 1) != 0) {
                int room = paths[bed * HOURS + hour];
                crowds[room]++;
                most = Math.max(most, crowds[room]);
            }
        }
        return most;
    }

    /** Of each person at once, for the runs of all sets of EVENTS are the dear part. */
    private void weighOdds(int c, int hour) {
        if (oddsSixteenths == c && oddsHour == hour) {
            return;
        }
        Arrays.fill(odds, 0L);
        for (int without = 0; without < 1 << told.size; without++) {
            long weight = weightOf(c, without);
            if (weight != 0) {
                trial.runWith(told, without, lead);
                addOdds(trial.aloneBehind(hour), weight);
            }
        }
        oddsSixteenths = c;
        oddsHour = hour;
    }

    private long weightOf(int c, int without) {
        long weight = 1;
        for (int e = 0; e < told.size; e++) {
            weight *= (without >> e & 1) == 0 ? c : SIXTEENTHS - c;
        }
        return weight;
    }

    private void addOdds(int alone, long weight) {
        for (int p = 0; p < MOST_PEOPLE; p++) {
            if ((alone >> p & 1) != 0) {
                odds[p] += weight;
            }
        }
    }

    // ---- findings

    private int refuse(int number) {
        finding = number;
        return -10 - number;
    }

    private int refusalOfItem(int s, int form, int i) {
        if (!isSheet(s) || !isForm(form)) {
            return BAD;
        }
        Sheet it = sheets[s];
        if (it.isLost()) {
            return refuse(NULL);
        }
        if (it.form != form) {
            return refuse(CAST);
        }
        return it.holds(i, 1) ? 0 : refuse(INDEX);
    }

    /** Bytes as they were typed, and what they tell: it is read once for each change. */
    private abstract static class Text {
        final int[] bytes = new int[DOOR_BYTES];
        final int limit;
        // So many bytes tell one thing, with the ; behind it.
        final int part;
        int size;
        int faultPlace;
        int many;

        Text(int limit, int part) {
            this.limit = Math.min(limit, DOOR_BYTES);
            this.part = Math.max(part, 1);
            size = 0;
            faultPlace = NONE;
            many = 0;
        }

        /** Of a byte that is no ; between two things. */
        abstract boolean fits(int place, int inPart);

        abstract void readThings();

        boolean isFull() {
            return size >= limit;
        }

        void add(int b) {
            if (!isFull()) {
                bytes[size] = b;
                size++;
                understand();
            }
        }

        void shorten(int left) {
            if (left >= 0 && left < size) {
                size = left;
                understand();
            }
        }

        boolean isFigure(int place) {
            return bytes[place] >= '0' && bytes[place] < '0' + ROOMS;
        }

        int figure(int place) {
            return bytes[place] - '0';
        }

        private void understand() {
            faultPlace = firstFault();
            many = faultPlace == NONE ? (size + 1) / part : 0;
            readThings();
        }

        // No test for a thirteenth DOOR or a ninth PERSON: the limits leave no byte for one.
        private int firstFault() {
            for (int i = 0; i < size; i++) {
                int inPart = i % part;
                if (inPart == part - 1 ? bytes[i] != ';' : !fits(i, inPart)) {
                    return i;
                }
            }
            return size == 0 || size % part == part - 1 ? NONE : size;
        }
    }

    private static final class Doors extends Text {
        private static final int PART = 3;
        final int[] ones = new int[MOST_DOORS];
        final int[] others = new int[MOST_DOORS];
        final int[] beside = new int[ROOMS];

        Doors() {
            super(DOOR_BYTES, PART);
        }

        boolean fits(int place, int inPart) {
            return isFigure(place) && (inPart == 0 || bytes[place] != bytes[place - 1]);
        }

        void readThings() {
            for (int d = 0; d < many; d++) {
                ones[d] = figure(d * PART);
                others[d] = figure(d * PART + 1);
            }
        }

        void openAllBut(int shut) {
            for (int room = 0; room < ROOMS; room++) {
                beside[room] = 0;
            }
            for (int d = 0; d < many; d++) {
                if ((shut >> d & 1) == 0) {
                    beside[ones[d]] |= 1 << others[d];
                    beside[others[d]] |= 1 << ones[d];
                }
            }
        }

        /** Lays from a place on, by room * ROOMS + aim, into which room one goes. */
        void fillStepsTo(int aim, int[] steps, int from) {
            for (int room = 0; room < ROOMS; room++) {
                steps[from + room * ROOMS + aim] = room;
            }
            int reached = 1 << aim;
            int edge = reached;
            for (int away = 1; away < ROOMS && edge != 0; away++) {
                int next = 0;
                // The least rooms come first: each room goes into the least one beside it.
                for (int near = 0; near < ROOMS; near++) {
                    int behind = (edge >> near & 1) == 0 ? 0 : beside[near] & ~(reached | next);
                    next |= behind;
                    for (int room = 0; room < ROOMS && behind != 0; room++) {
                        if ((behind >> room & 1) != 0) {
                            steps[from + room * ROOMS + aim] = near;
                        }
                    }
                }
                reached |= next;
                edge = next;
            }
        }
    }

    private static final class People extends Text {
        private static final int PART = 4;
        final int[] sorts = new int[MOST_PEOPLE];
        final int[] starts = new int[MOST_PEOPLE];
        final int[] beds = new int[MOST_PEOPLE];

        People() {
            super(PEOPLE_BYTES, PART);
        }

        boolean fits(int place, int inPart) {
            return inPart == 0 ? sortAt(place) != NONE : isFigure(place);
        }

        void readThings() {
            for (int p = 0; p < many; p++) {
                sorts[p] = sortAt(p * PART);
                starts[p] = figure(p * PART + 1);
                beds[p] = figure(p * PART + 2);
            }
        }

        private int sortAt(int place) {
            switch (bytes[place]) {
                case 'g': return GUEST;
                case 'c': return CHILD;
                case 'h': return HOUSEKEEPER;
                default: return NONE;
            }
        }
    }

    private static final class Events {
        // One more than can be told, for NICE.
        private static final int MOST = MOST_EVENTS + 1;
        final int[] kinds = new int[MOST];
        final int[] hours = new int[MOST];
        final int[] numbers = new int[MOST];
        int size;

        void add(int kind, int hour, int number) {
            if (size >= 0 && size < MOST) {
                kinds[size] = kind;
                hours[size] = hour;
                numbers[size] = number;
                size++;
            }
        }

        void become(Events other) {
            size = 0;
            for (int e = 0; e < other.size; e++) {
                add(other.kinds[e], other.hours[e], other.numbers[e]);
            }
        }
    }

    private static final class Lots {
        int seed;

        int draw(int m) {
            seed = 1103515245 * seed + 12345;
            return m < 1 ? 0 : (seed >>> 16) % m;
        }
    }

    /** Who is where behind each HOUR, by some EVENTS and some AHEAD. */
    private static final class Week {
        // A span is of HOURS with the same SHUT DOORS: each EVENT told can begin one more.
        private static final int SPANS = MOST_EVENTS + 1, TABLE = ROOMS * ROOMS;
        final Doors doors;
        final People people;
        final int[] where = new int[HOURS * MOST_PEOPLE];
        final int[] hams = new int[HOURS];
        final int[] shuts = new int[HOURS];
        // Of each HOUR, where the table of its span begins in steps.
        final int[] tables = new int[HOURS];
        final int[] steps = new int[SPANS * TABLE];
        // The SHUT DOORS of which the table of a span is, perhaps from another run; NONE: of none.
        final int[] shutInSpan = new int[SPANS];
        Events events;
        int without;
        int lead;
        // One of the people may be supposed to have another sort or bed than told.
        int who;
        int sortOfWho;
        int bedOfWho;

        Week(Doors doors, People people, Events events) {
            this.doors = doors;
            this.people = people;
            this.events = events;
            who = NONE;
            sortOfWho = NONE;
            bedOfWho = NONE;
            Arrays.fill(shutInSpan, NONE);
        }

        void forgetSteps() {
            Arrays.fill(shutInSpan, NONE);
        }

        /** NONE leaves a sort or a bed as told. */
        void suppose(int person, int sort, int bed) {
            who = person;
            sortOfWho = sort;
            bedOfWho = bed;
        }

        void runWith(Events these, int withoutThose, int ahead) {
            events = these;
            without = withoutThose;
            lead = ahead;
            layHours();
            layTables();
            int many = people.many;
            int child = NONE;
            for (int p = many - 1; p >= 0; p--) {
                if (sortOf(p) == CHILD) {
                    child = p;
                }
                if (sortOf(p) != HOUSEKEEPER) {
                    walk(p, NONE);
                }
            }
            // A housekeeper looks where the child will be: it has to have gone before.
            for (int p = 0; p < many; p++) {
                if (sortOf(p) == HOUSEKEEPER) {
                    walk(p, child);
                }
            }
        }

        private void layHours() {
            int ham = NONE;
            int shut = 0;
            for (int h = 0; h < HOURS; h++) {
                for (int e = 0; e < events.size; e++) {
                    if (events.hours[e] != h || (without >> e & 1) != 0) {
                        continue;
                    }
                    if (events.kinds[e] == HAM) {
                        ham = events.numbers[e];
                    } else {
                        shut |= 1 << events.numbers[e];
                    }
                }
                hams[h] = ham;
                shuts[h] = shut;
            }
        }

        private void layTables() {
            int span = 0;
            for (int h = 0; h < HOURS; h++) {
                if (h > 0 && shuts[h] != shuts[h - 1] && span < SPANS - 1) {
                    span++;
                }
                tables[h] = span * TABLE;
                // The dear part of a run: left out where an earlier run had the same SHUT DOORS.
                if (shutInSpan[span] != shuts[h]) {
                    shutInSpan[span] = shuts[h];
                    doors.openAllBut(shuts[h]);
                    for (int aim = 0; aim < ROOMS; aim++) {
                        doors.fillStepsTo(aim, steps, tables[h]);
                    }
                }
            }
        }

        private void walk(int p, int child) {
            int sort = sortOf(p);
            int bed = bedOf(p);
            int start = people.starts[p];
            int room = start;
            int aim = bed;
            for (int h = 0; h < HOURS; h++) {
                if (sort == HOUSEKEEPER && child != NONE) {
                    aim = roomOf(Math.min(h + lead, LAST_HOUR), child);
                } else if (sort == GUEST && hams[h] != NONE) {
                    aim = hams[h];
                }
                room = steps[tables[h] + room * ROOMS + aim];
                where[h * MOST_PEOPLE + p] = room;
                if (sort == CHILD && room == aim) {
                    aim = aim == bed ? start : bed;
                }
            }
        }

        private int sortOf(int p) {
            return p == who && sortOfWho != NONE ? sortOfWho : people.sorts[p];
        }

        private int bedOf(int p) {
            return p == who && bedOfWho != NONE ? bedOfWho : people.beds[p];
        }

        int roomOf(int hour, int p) {
            return where[hour * MOST_PEOPLE + p];
        }

        int whoIn(int hour, int room) {
            int bits = 0;
            for (int p = 0; p < people.many; p++) {
                if (roomOf(hour, p) == room) {
                    bits |= 1 << p;
                }
            }
            return bits;
        }

        int doorsBetween(int hour, int one, int other) {
            int here = one;
            for (int away = 0; away < ROOMS; away++) {
                if (here == other) {
                    return away;
                }
                here = steps[tables[hour] + here * ROOMS + other];
            }
            return NONE;
        }

        int emptyHours(int room) {
            int bits = 0;
            for (int h = 0; h < HOURS; h++) {
                if (whoIn(h, room) == 0) {
                    bits |= 1 << h;
                }
            }
            return bits;
        }

        int aloneBehind(int hour) {
            int taken = 0;
            int shared = 0;
            for (int p = 0; p < people.many; p++) {
                int room = 1 << roomOf(hour, p);
                shared |= taken & room;
                taken |= room;
            }
            int bits = 0;
            for (int p = 0; p < people.many; p++) {
                if ((shared >> roomOf(hour, p) & 1) == 0) {
                    bits |= 1 << p;
                }
            }
            return bits;
        }

        int hoursAlone(int p) {
            int hours = 0;
            for (int h = 0; h < HOURS; h++) {
                hours += aloneBehind(h) >> p & 1;
            }
            return hours;
        }

        int mostIn(int hour) {
            int most = 0;
            for (int r = 0; r < ROOMS; r++) {
                most = Math.max(most, Integer.bitCount(whoIn(hour, r)));
            }
            return most;
        }

        int firstRoomOf(int hour, int many) {
            for (int r = 0; r < ROOMS; r++) {
                if (Integer.bitCount(whoIn(hour, r)) == many) {
                    return r;
                }
            }
            return NONE;
        }

        int findingHour() {
            for (int h = 0; h < HOURS; h++) {
                if (finder(h) != NONE) {
                    return h;
                }
            }
            return NONE;
        }

        int finder(int hour) {
            for (int p = 0; p < people.many; p++) {
                if (sortOf(p) == HOUSEKEEPER && childWith(hour, p) != NONE) {
                    return p;
                }
            }
            return NONE;
        }

        int childWith(int hour, int keeper) {
            for (int p = 0; p < people.many; p++) {
                if (sortOf(p) == CHILD && roomOf(hour, p) == roomOf(hour, keeper)) {
                    return p;
                }
            }
            return NONE;
        }
    }

    private static final class Sights {
        final int[] hours = new int[MOST_SEEN];
        final int[] persons = new int[MOST_SEEN];
        final int[] rooms = new int[MOST_SEEN];
        int size;

        void add(int hour, int person, int room) {
            if (size >= 0 && size < MOST_SEEN) {
                hours[size] = hour;
                persons[size] = person;
                rooms[size] = room;
                size++;
            }
        }

        boolean allIn(Week week) {
            int many = week.people.many;
            for (int i = 0; i < size; i++) {
                if (persons[i] >= many || week.roomOf(hours[i], persons[i]) != rooms[i]) {
                    return false;
                }
            }
            return true;
        }
    }

    /** A row of a FORM; its items stand in a row that is used again by the next one. */
    private static final class Sheet {
        final int[] items = new int[MOST_ITEMS];
        int form;
        int size;

        Sheet() {
            form = FORM_BYTES;
            size = NONE;
        }

        boolean isLost() {
            return size == NONE;
        }

        void become(int newForm, int n) {
            form = newForm;
            size = n;
            Arrays.fill(items, 0);
        }

        boolean holds(int from, int n) {
            return from >= 0 && n >= 0 && from <= size && n <= size - from;
        }

        void lay(int i, int v) {
            if (form == FORM_BYTES) {
                items[i] = (byte) v;
            } else {
                items[i] = form == FORM_SHORTS ? (short) v : v;
            }
        }
    }
}
