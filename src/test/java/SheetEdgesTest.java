/** The edges of SHEETS, count() and digest(): LOST, of no items and of 60, of each FORM, ints and longs that wrap. */
public final class SheetEdgesTest {
    private static final int NONE = -1, BAD = -2;
    private static final int NULL = -11, INDEX = -12, CAST = -13, STORE = -14, SIZE = -15;
    private static final int LEAST = Integer.MIN_VALUE, MOST = Integer.MAX_VALUE;
    private static final int[] WILD = {0, 1, -1, 127, 128, 255, 256, -128, -129, 32767, 32768, 65535, 65536,
        -32768, -32769, 8388607, MOST, LEAST};

    private static final Checks checks = new Checks();

    public static void main(String[] args) {
        lostAtFirst();
        sizes();
        formsOfItems();
        aNewRowIsOfNoughts();
        readSizes();
        readUpToTheFirstRefused();
        readOfForms();
        writeSizes();
        writeOfForms();
        copyWhole();
        copyInItself();
        copyAtTheEnds();
        findings();
        counts();
        digests();
        digestWraps();
        checks.end();
    }

    private static void due(String call, long got, long want) {
        checks.due(call, got, want);
    }

    private static void putAll(DollsAhead x, int s, int form, int... items) {
        due("sheet", x.sheet(s, form, items.length), items.length);
        for (int i = 0; i < items.length; i++) {
            due("put", x.put(s, form, i, items[i]), 1);
        }
    }

    private static void itemsAre(String call, DollsAhead x, int s, int form, int... want) {
        for (int i = 0; i < want.length; i++) {
            due(call + ", item " + i, x.get(s, form, i), want[i]);
        }
        due(call + ", no more", x.get(s, form, want.length), LEAST);
        due(call + ", no more", x.count(8), 2);
    }

    // ---- rows

    private static void lostAtFirst() {
        for (int s = 0; s < 4; s++) {
            DollsAhead x = new DollsAhead();
            due("lose", x.lose(s), NULL);
            due("read", x.read(s), NULL);
            due("put", x.put(s, 0, 0, 0), NULL);
            due("copy", x.copy(s, 0, s, 0, 0), NULL);
            due("none before it", new DollsAhead().count(8), 0);
            due("get", x.get(s, 0, 0), LEAST);
            due("told", x.count(8), 1);
            due("of no items", x.sheet(s, 2, 0), 0);
            due("it is not lost", x.copy(s, 0, s, 0, 0), 1);
            due("lose", x.lose(s), 0);
            due("lost again", x.lose(s), NULL);
        }
    }

    private static void sizes() {
        DollsAhead x = new DollsAhead();
        for (int n = 0; n <= 60; n++) {
            int s = n % 4;
            due("sheet", x.sheet(s, n % 3, n), n);
            if (n > 0) {
                due("first", x.put(s, n % 3, 0, n), 1);
                due("last", x.put(s, n % 3, n - 1, -n), 1);
                due("last", x.get(s, n % 3, n - 1), -n);
            }
            due("behind the last", x.put(s, n % 3, n, 1), INDEX);
            due("ahead of the first", x.put(s, n % 3, -1, 1), INDEX);
            due("lose", n % 2 == 0 ? x.lose(s) : n, n);
        }
        due("below", x.sheet(3, 0, -1), SIZE);
        due("above", x.sheet(3, 0, 61), BAD);
    }

    private static void formsOfItems() {
        DollsAhead x = new DollsAhead();
        for (int form = 0; form < 3; form++) {
            due("sheet", x.sheet(form, form, 1), 1);
        }
        for (int v : WILD) {
            for (int form = 0; form < 3; form++) {
                due("put", x.put(form, form, 0, v), 1);
                long want = form == 2 ? v : form == 1 ? Math.floorMod(v + 32768L, 65536) - 32768
                    : Math.floorMod(v + 128L, 256) - 128;
                due(v + " of form " + form, x.get(form, form, 0), want);
            }
        }
        due("no finding, though an item was the least int", x.count(8), 0);
    }

    private static void aNewRowIsOfNoughts() {
        DollsAhead x = new DollsAhead();
        for (int form = 0; form < 3; form++) {
            x.sheet(1, form, 60);
            for (int i = 0; i < 60; i++) {
                due("nought", x.get(1, form, i), 0);
            }
            for (int i = 0; i < 60; i++) {
                x.put(1, form, i, 99);
            }
        }
        x = new DollsAhead();
        putAll(x, 0, 2, 5, 6, 7);
        x.lose(0);
        x.sheet(0, 2, 4);
        itemsAre("behind a lost one", x, 0, 2, 0, 0, 0, 0);
        putAll(x, 0, 2, 5, 6, 7);
        x.sheet(0, 2, 1);
        itemsAre("a shorter one", x, 0, 2, 0);
        putAll(x, 2, 1, 8);
        itemsAre("the other sheets stay", x, 0, 2, 0);
    }

    // ---- read, write

    private static void readSizes() {
        for (int n = 0; n <= 60; n++) {
            for (int told = 0; told <= 8; told += 4) {
                DollsAhead x = Checks.house("01", "g00");
                for (int e = 0; e < told; e++) {
                    x.event(1, 0, 11);
                }
                x.sheet(3, 2, n);
                int took = Math.min(n / 3, 8 - told);
                due("read of " + n + " behind " + told, x.read(3), took);
                due("events behind read of " + n, x.count(4), told + took);
                due("the sheet stays", x.lose(3), n);
            }
        }
        DollsAhead x = Checks.house("01;12", "g00");
        putAll(x, 0, 2, 0, 5, 1, 0, 6, 2, 1);
        x.event(0, 3, 1);
        due("two whole ones", x.read(0), 2);
        due("in their order", x.at(6, 0, 0), 2);
        due("the last is undone first", x.back(), 2);
        due("the first of them", x.at(6, 0, 0), 1);
        due("once more", x.read(0), 2);
        due("as often as one likes", x.read(0), 2);
        due("till all are told", x.read(0), 2);
        due("till all are told", x.read(0), 0);
        due("eight", x.count(4), 8);
    }

    private static void readUpToTheFirstRefused() {
        int[][] no = {{2, 0, 0}, {-1, 0, 0}, {0, 24, 0}, {0, -1, 0}, {0, 0, 8}, {0, 0, -1}, {1, 0, 12}, {1, 0, -1}};
        for (int[] event : no) {
            for (int place = 0; place < 4; place++) {
                DollsAhead x = Checks.house("01", "g00");
                x.sheet(0, 1, 15);
                for (int i = 0; i < 3; i++) {
                    x.put(0, 1, 3 * place + i, event[i]);
                }
                due("up to the first that is refused", x.read(0), place);
                due("none behind it", x.count(4), place);
                due("no finding", x.count(8), 0);
            }
        }
    }

    private static void readOfForms() {
        int[] all = {0, 23, 7, 1, 0, 11, 1, 23, 0, 0, 0, 0};
        for (int form = 0; form < 3; form++) {
            DollsAhead x = Checks.house("07", "g00");
            putAll(x, 2, form, all);
            due("four of form " + form, x.read(2), 4);
            due("the door is shut at 23", x.far(23, 0, 7), NONE);
            due("not at 22", x.far(22, 0, 7), 1);
        }
        DollsAhead x = new DollsAhead();
        putAll(x, 0, 0, 256, 512, 7);
        due("bytes are what is left of them", x.read(0), 1);
        putAll(x, 0, 2, 256, 512, 7);
        due("ints are whole", x.read(0), 0);
    }

    /** The child's ROOM: between 0 and 1, from 0 on. */
    private static int childTurning(int hour) {
        return hour % 2 == 0 ? 1 : 0;
    }

    private static void writeSizes() {
        for (int n = 0; n <= 60; n++) {
            DollsAhead x = Checks.house("01", "g00;c01");
            x.sheet(1, 2, n);
            for (int i = 0; i < n; i++) {
                x.put(1, 2, i, 77);
            }
            due("write to " + n, x.write(1, 1), Math.min(n, 24));
            int[] want = new int[n];
            for (int i = 0; i < n; i++) {
                want[i] = i < 24 ? childTurning(i) : 77;
            }
            itemsAre("written to " + n, x, 1, 2, want);
        }
    }

    private static void writeOfForms() {
        DollsAhead x = Checks.fullTexts();
        for (int form = 0; form < 3; form++) {
            x.sheet(form, form, 24);
            due("the last of eight", x.write(7, form), 24);
            for (int h = 0; h < 24; h++) {
                due("where it is", x.get(form, form, h), x.at(h, 7, 0));
            }
        }
        due("its form stays", x.put(0, 0, 0, 0), 1);
    }

    // ---- copy

    private static void copyWhole() {
        for (int form = 0; form < 3; form++) {
            DollsAhead x = new DollsAhead();
            int[] all = new int[60];
            for (int i = 0; i < 60; i++) {
                all[i] = i * 2 - 60;
            }
            putAll(x, 0, form, all);
            x.sheet(3, form, 60);
            due("60 of form " + form, x.copy(0, 0, 3, 0, 60), 1);
            itemsAre("60 of form " + form, x, 3, form, all);
            itemsAre("they stay", x, 0, form, all);
            x.put(0, form, 0, 11);
            due("each is a row of its own", x.get(3, form, 0), -60);
        }
    }

    private static void copyInItself() {
        DollsAhead x = new DollsAhead();
        putAll(x, 0, 2, 1, 2, 3, 4, 5, 6);
        due("up", x.copy(0, 0, 0, 2, 4), 1);
        itemsAre("up", x, 0, 2, 1, 2, 1, 2, 3, 4);
        putAll(x, 0, 2, 1, 2, 3, 4, 5, 6);
        due("down", x.copy(0, 2, 0, 0, 4), 1);
        itemsAre("down", x, 0, 2, 3, 4, 5, 6, 5, 6);
        due("onto itself", x.copy(0, 0, 0, 0, 6), 1);
        itemsAre("onto itself", x, 0, 2, 3, 4, 5, 6, 5, 6);
        due("one", x.copy(0, 5, 0, 0, 1), 1);
        itemsAre("one", x, 0, 2, 6, 4, 5, 6, 5, 6);
    }

    private static void copyAtTheEnds() {
        DollsAhead x = new DollsAhead();
        putAll(x, 0, 1, 1, 2, 3);
        putAll(x, 1, 1, 4, 5);
        int[] three = {1, 2, 3};
        int[] two = {4, 5};
        for (int i = -1; i <= 4; i++) {
            for (int j = -1; j <= 3; j++) {
                due("none", x.copy(0, i, 1, j, 0), i >= 0 && i <= 3 && j >= 0 && j <= 2 ? 1 : INDEX);
                due("none and less", x.copy(0, i, 1, j, -1), INDEX);
                due("three to two", x.copy(0, i, 1, j, 3), INDEX);
            }
        }
        itemsAre("nothing came", x, 1, 1, two);
        due("both to the end", x.copy(0, 1, 1, 0, 2), 1);
        itemsAre("both to the end", x, 1, 1, 2, 3);
        due("the last to the last", x.copy(1, 1, 0, 2, 1), 1);
        itemsAre("the last to the last", x, 0, 1, three);
        due("behind the one's end", x.copy(0, 2, 1, 0, 2), INDEX);
        due("behind the other's end", x.copy(0, 0, 1, 1, 2), INDEX);
        itemsAre("nothing came", x, 1, 1, 2, 3);
        x.sheet(2, 1, 0);
        x.sheet(3, 1, 0);
        due("none of none", x.copy(2, 0, 3, 0, 0), 1);
        due("one of none", x.copy(2, 0, 0, 0, 1), INDEX);
        due("one to none", x.copy(0, 0, 2, 0, 1), INDEX);
        due("sums that wrap", x.copy(0, MOST, 0, 0, MOST), INDEX);
        due("sums that wrap", x.copy(0, 0, 0, MOST, 2), INDEX);
        due("sums that wrap", x.copy(0, LEAST, 0, LEAST, LEAST), INDEX);
    }

    // ---- findings, counts, digest

    private static void findings() {
        DollsAhead x = new DollsAhead();
        due("before any", x.count(8), 0);
        x.type(5, 5);
        x.undo(0);
        x.back();
        x.event(9, 9, 9);
        due("no BAD and no NOT is one", x.count(8), 0);
        due("size", x.sheet(0, 0, -1), SIZE);
        due("the latest", x.count(8), 5);
        due("null", x.lose(0), NULL);
        due("the latest", x.count(8), 1);
        x.sheet(0, 0, 2);
        x.sheet(1, 1, 2);
        due("cast", x.put(0, 1, 0, 0), CAST);
        due("the latest", x.count(8), 3);
        due("store", x.copy(0, 0, 1, 0, 0), STORE);
        due("the latest", x.count(8), 4);
        due("index", x.put(0, 0, 2, 0), INDEX);
        due("the latest", x.count(8), 2);
        x.put(0, 0, 1, 0);
        x.get(0, 0, 1);
        x.copy(0, 0, 0, 0, 2);
        x.lose(0);
        x.sheet(0, 0, 0);
        x.digest();
        due("what is well is none", x.count(8), 2);
        for (int i = 0; i < 8; i++) {
            x.event(0, 0, 0);
            x.seen(0, 0, 0);
        }
        x.event(0, 0, 0);
        x.seen(0, 0, 0);
        x.get(9, 9, 9);
        x.count(9);
        due("no FULL is one", x.count(8), 2);
    }

    private static void counts() {
        DollsAhead x = new DollsAhead();
        int[] least = {0, 0, 0, 0, 0, 0, 192, 0, 0};
        for (int what = 0; what < 9; what++) {
            due("least count(" + what + ")", x.count(what), least[what]);
        }
        x = Checks.fullTexts();
        for (int i = 0; i < 8; i++) {
            x.event(1, 0, i);
            x.seen(0, 0, 0);
        }
        int[] most = {12, 8, 35, 31, 8, Integer.bitCount(x.alone()), 0, 8, 0};
        for (int r = 0; r < 8; r++) {
            most[6] += Integer.bitCount(x.empty(r));
        }
        for (int what = 0; what < 9; what++) {
            due("most count(" + what + ")", x.count(what), most[what]);
        }
        due("count(-1)", x.count(-1), BAD);
        due("count(9)", x.count(9), BAD);
    }

    private static void digest(String call, DollsAhead x) {
        long got = x.digest();
        due("digest of " + call, got, Digests.ofAnswers(x));
        due("digest of " + call + " once more", x.digest(), got);
    }

    private static void digests() {
        digest("a new house", new DollsAhead());
        digest("doors alone", Checks.house("01;12", ""));
        digest("people alone", Checks.house("", "c07;h70"));
        digest("doors with a fault", Checks.house("01;", "c07;h70;g33"));
        digest("people with a fault", Checks.house("01;12", "c07;h70;g3"));
        DollsAhead apart = Checks.house("01;12;23;45;34;56;67", "g66;g45;g30");
        due("weeks of five", apart.weeks(7, 5, 0), 1);
        due("weeks of six", apart.weeks(7, 6, 0), 0);
        due("weeks of seven", apart.weeks(7, 7, 0), 1);
        digest("weeks of six", apart);
        // One house for each hour, so that what is asked of hours 9, 23, 14 and 8 shows.
        for (int hour = 0; hour < 24; hour++) {
            DollsAhead x = Checks.house("01;12;23;34;45;56;67;70", "g04;c15;h30;g77;g02");
            x.event(1, hour, 4);
            x.event(0, (hour + 1) % 24, hour % 8);
            x.event(1, hour, 1);
            x.seen(hour, 1, x.at(hour, 1, 0));
            x.ahead(1 + hour % 9);
            digest("hour " + hour, x);
        }
    }

    private static void digestWraps() {
        DollsAhead x = Checks.fullTexts();
        for (int e = 0; e < 8; e++) {
            x.event(e % 2, 3 * e, 7 - e);
            x.seen(3 * e, e, x.at(3 * e, e, 0));
        }
        digest("a house that is full", x);
    }
}
