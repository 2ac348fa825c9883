import java.math.BigInteger;

/** The edges of what was SEEN, of CHANCE and of WEEKS: nothing and as much as can be, ties, FRACTIONS, ints that wrap. */
public final class SeenEdgesTest {
    private static final int NONE = -1, BAD = -2, FULL = -4;
    private static final int LEAST = Integer.MIN_VALUE, MOST = Integer.MAX_VALUE;
    private static final String ROW = "01;12;23;34;45;56;67";
    private static final String STAR = "01;02;03;04;05;06;07";

    private static final Checks checks = new Checks();

    public static void main(String[] args) {
        seenNothing();
        seenEight();
        seenOfOneThatThereIsNot();
        never();
        sorts();
        beds();
        onlyThought();
        aheadAsTold();
        ask();
        askTheLastHour();
        askWhereThereAreNone();
        chanceOfNoEvents();
        chanceOfEight();
        chanceOfSixteenths();
        chanceHoursAndPeople();
        chanceChanges();
        lots();
        weeksInPlaceOfThoseTold();
        weeksWithoutHouse();
        checks.end();
    }

    private static void due(String call, long got, long want) {
        checks.due(call, got, want);
    }

    // ---- seen

    private static void seenNothing() {
        DollsAhead x = Checks.house(STAR, "g00;c11;h22");
        due("nothing", x.count(7), 0);
        due("nothing to forget", x.forget(), 0);
        for (int p = 0; p < 3; p++) {
            due("any sort", x.was(p, 0), 7);
            due("any bed", x.was(p, 1), 255);
        }
        due("no event", x.never(), 0);
        for (int e = 1; e <= 8; e++) {
            x.event(e % 2, e, e - 1);
            due("any event", x.never(), (1 << e) - 1);
        }
    }

    private static void seenEight() {
        DollsAhead x = Checks.house(STAR, "g05");
        for (int i = 1; i <= 7; i++) {
            due("seen", x.seen(i, 0, 5), i);
        }
        due("beds", x.was(0, 1), 32);
        due("the eighth", x.seen(23, 0, 4), 8);
        due("all have to come out so, the eighth, too", x.was(0, 1), 0);
        due("a ninth", x.seen(23, 0, 5), FULL);
        due("eight", x.count(7), 8);
        due("all forgotten", x.forget(), 8);
        due("none", x.count(7), 0);
        due("any bed", x.was(0, 1), 255);
        for (int i = 1; i <= 8; i++) {
            due("the same as often as one likes", x.seen(23, 0, 4), i);
        }
        due("beds", x.was(0, 1), 16);
        due("forgotten", x.forget(), 8);
        x.seen(0, 0, 4);
        x.seen(1, 0, 5);
        due("the first has to come out so, too", x.was(0, 1), 0);
    }

    private static void seenOfOneThatThereIsNot() {
        DollsAhead x = Checks.house(STAR, "g00");
        x.event(0, 5, 7);
        x.seen(0, 1, 0);
        due("never comes out so", x.never(), 0);
        due("never comes out so", x.was(0, 0), 0);
        due("never comes out so", x.was(0, 1), 0);
        Checks.typeAll(x, 1, ";g00");
        due("once it is there", x.never(), 1);
        due("once it is there", x.was(0, 0), 7);
        due("once it is there", x.was(0, 1), 255);
        x.undo(1);
        due("with a fault nobody is there", x.never(), 0);
        x = Checks.house(STAR, "g00;g00;g00;g00;g00;g00;g00;g00");
        x.seen(0, 7, 0);
        due("the last of eight", x.was(7, 1), 1);
        due("of another one", x.was(0, 1), 255);
    }

    private static void never() {
        for (int which = 0; which < 8; which++) {
            DollsAhead x = Checks.house(STAR, "g00");
            for (int e = 0; e < 8; e++) {
                x.event(0, e == which ? 3 : 23, e == which ? 7 : 0);
            }
            x.seen(3, 0, 0);
            due("had it not been", x.never(), 1 << which);
            x.forget();
            x.seen(3, 0, 7);
            due("had another one not been", x.never(), 255 - (1 << which));
            due("they stay", x.count(4), 8);
            due("they stay", x.at(3, 0, 0), 7);
        }
        DollsAhead x = Checks.house(STAR, "g00");
        x.event(0, 3, 7);
        x.event(0, 3, 7);
        x.seen(3, 0, 0);
        due("each alone is not enough", x.never(), 0);
    }

    private static void sorts() {
        // Behind hour 0 a guest would be by the ham, a child in the bed, a housekeeper with the child.
        DollsAhead x = Checks.house(STAR, "g03;c22");
        x.event(0, 0, 1);
        for (int room = 0; room < 8; room++) {
            x.seen(0, 0, room);
            int want = room == 1 ? 1 : room == 3 ? 2 : room == 2 ? 4 : 0;
            due("sorts seen in " + room, x.was(0, 0), want);
            x.forget();
        }
        x = Checks.house(STAR, "h03;c33");
        x.seen(0, 0, 3);
        due("of any sort in 3, if there is no ham", x.was(0, 0), 7);
        x.seen(1, 0, 0);
        due("only a child comes back", x.was(0, 0), 2);
        due("its sort is as it was", x.person(0, 0), 2);
    }

    private static void beds() {
        DollsAhead x = Checks.house(STAR, "g00");
        for (int bed = 0; bed < 8; bed++) {
            x.seen(23, 0, bed);
            due("seen in a bed", x.was(0, 1), 1 << bed);
            x.forget();
        }
        x = Checks.house(ROW, "g00");
        for (int h = 0; h < 7; h++) {
            x.seen(h, 0, h + 1);
            due("on the way", x.was(0, 1), 256 - (1 << h + 1));
        }
        x = Checks.house(ROW, "h00;c44");
        x.seen(0, 0, 1);
        due("a bed doesn't matter if there is a child", x.was(0, 1), 255);
        due("but that of the child", x.was(1, 1), 254);
    }

    /** Behind was(), ask(), sleep() and never() all is as told, for whatever is thought next. */
    private static void onlyThought() {
        for (int thought = 0; thought < 5; thought++) {
            // By another bed the last one would be far from the first, by another sort with the child.
            DollsAhead x = Checks.house(ROW, "g00;c01;h00;g00");
            x.ahead(2);
            x.event(0, 23, 0);
            long before = x.digest();
            String call = " behind thought " + thought;
            think(x, thought);
            due("chance" + call, x.chance(16, 3, 12, 0), 0);
            think(x, thought);
            due("nice" + call, x.nice(23, 1), 4);
            think(x, thought);
            due("spare" + call, x.spare(NONE), 0);
            think(x, thought);
            due("weeks" + call, x.weeks(0, 0, 0), 0);
            x.seen(12, 3, 0);
            think(x, thought);
            due("never" + call, x.never(), 1);
            due("seen" + call, x.forget(), 1);
            think(x, thought);
            due("as it was" + call, x.digest(), before);
            due("its bed" + call, x.person(3, 2), 0);
            due("its sort" + call, x.person(3, 0), 0);
            due("the events" + call, x.count(4), 1);
        }
    }

    private static void think(DollsAhead x, int thought) {
        switch (thought) {
            case 0: x.was(3, 0); break;
            case 1: x.was(3, 1); break;
            case 2: x.ask(3); break;
            case 3: x.sleep(3, 0); break;
            default: x.never(); break;
        }
    }

    /** The child turns between 0 and 1; who is v hours ahead of it is in 1 behind hour 5 if v is odd. */
    private static void aheadAsTold() {
        for (int v = 1; v <= 9; v++) {
            boolean odd = v % 2 == 1;
            DollsAhead x = Checks.house("01", "c01;h00");
            x.ahead(v);
            x.event(0, 23, 7);
            x.seen(5, 1, 1);
            due("never, ahead " + v, x.never(), odd ? 1 : 0);
            due("sorts, ahead " + v, x.was(1, 0), odd ? 4 : 0);
            due("sorts of the child, ahead " + v, x.was(0, 0), odd ? 2 : 0);
            due("beds of the child, ahead " + v, x.was(0, 1), odd ? 2 : 0);
            due("beds, ahead " + v, x.was(1, 1), odd ? 255 : 0);
            chance(x, 9, 1, 5, odd ? 1 : 0, 1);
            due("weeks, ahead " + v, x.weeks(1, 0, 1), odd ? 0 : 12 - v / 2);
        }
    }

    // ---- ask

    private static void ask() {
        DollsAhead x = Checks.house("", "g00");
        due("nowhere else at any hour", x.ask(0), 0);
        x = Checks.house(STAR, "g00");
        due("each bed in another room at once", x.ask(0), 0);
        x = Checks.house(ROW, "g00");
        due("seven are in a row at hour 6", x.ask(0), 6);
        x.seen(6, 0, 7);
        due("one bed", x.ask(0), 0);
        x.forget();
        x.seen(5, 0, 6);
        due("beds 6 and 7", x.was(0, 1), 192);
        due("apart at hour 6", x.ask(0), 6);
        x = Checks.house("01;12;23;34;45;56;57", "g00");
        due("eight beds, two ways at last", x.ask(0), 5);
        // Once there is a ham, all are by it.
        x = Checks.house(ROW, "g00");
        x.event(0, 3, 0);
        due("four and more are together, least so at hour 2", x.ask(0), 2);
        x = Checks.house(STAR, "g00;g00;g00;g00;g00;g00;g00;g00");
        due("the last of eight", x.ask(7), 0);
        due("behind the last", x.ask(8), BAD);
    }

    /**
     * Door 5 is shut from hour 1 on, 0 from 7, 8 from 10. By bed 6 or 7 the child goes the same way: 4 6 7 3 5 0,
     * turning in 6 or in 7, then 5 2 3 7 6, turning in 6 or, as 8 is shut behind it, in 7, then 4 1 3 2 5 0
     * 5 2 3 1 4 6; only behind hour 23 it is in 4 on the way back from bed 6, or in bed 7.
     */
    private static void askTheLastHour() {
        DollsAhead x = Checks.house("53;23;13;05;52;40;14;76;73;64", "c06");
        x.event(1, 7, 0);
        x.event(1, 1, 5);
        x.event(1, 10, 8);
        due("all beds: apart much sooner", x.ask(0) < 23 ? 1 : 0, 1);
        x.seen(1, 0, 6);
        due("beds 6 and 7", x.was(0, 1), 192);
        due("apart behind the last hour", x.ask(0), 23);
        x.seen(23, 0, 7);
        due("bed 7", x.was(0, 1), 128);
        due("one bed", x.ask(0), 0);
        x.forget();
        int[] way = {4, 6, 7, 3, 5, 0, 5, 2, 3, 7, 6, 4, 1, 3, 2, 5, 0, 5, 2, 3, 1, 4, 6, 4};
        for (int h = 0; h < 24; h++) {
            due("the way by bed 6", x.at(h, 0, 0), way[h]);
        }
    }

    private static void askWhereThereAreNone() {
        DollsAhead x = Checks.house(ROW, "g00");
        x.seen(0, 0, 7);
        due("no bed", x.was(0, 1), 0);
        due("then 0", x.ask(0), 0);
    }

    // ---- chance

    private static void chance(DollsAhead x, int c, int person, int hour, long above, long below) {
        String call = Calls.told("chance", c, person, hour);
        due(call + " above", x.chance(c, person, hour, 0), above);
        due(call + " below", x.chance(c, person, hour, 1), below);
    }

    private static void chanceOfNoEvents() {
        DollsAhead x = Checks.house(STAR, "g00;g11;g11");
        for (int c = 0; c <= 16; c++) {
            chance(x, c, 0, 23, 1, 1);
            chance(x, c, 1, 0, 0, 1);
        }
    }

    private static void chanceOfEight() {
        // Both are in 0, but if any one of the eight is: then each is alone, behind any hour.
        DollsAhead x = Checks.house("01", "g00;g10");
        for (int e = 0; e < 8; e++) {
            x.event(1, 0, 0);
        }
        BigInteger below = BigInteger.valueOf(16).pow(8);
        for (int c = 0; c <= 16; c++) {
            BigInteger above = below.subtract(BigInteger.valueOf(16 - c).pow(8));
            BigInteger common = above.gcd(below);
            for (int hour : new int[] {0, 23}) {
                chance(x, c, 0, hour, above.divide(common).longValueExact(), below.divide(common).longValueExact());
            }
        }
        chance(x, 1, 1, 0, 1732076671L, 4294967296L);
        chance(x, 8, 1, 0, 255, 256);
        chance(x, 0, 1, 0, 0, 1);
        chance(x, 16, 1, 0, 1, 1);
    }

    private static void chanceOfSixteenths() {
        DollsAhead x = Checks.house("01", "g00;g10");
        x.event(1, 0, 0);
        long[] above = {0, 1, 1, 3, 1, 5, 3, 7, 1, 9, 5, 11, 3, 13, 7, 15, 1};
        long[] below = {1, 16, 8, 16, 4, 16, 8, 16, 2, 16, 8, 16, 4, 16, 8, 16, 1};
        for (int c = 0; c <= 16; c++) {
            chance(x, c, 0, 0, above[c], below[c]);
            chance(x, c, 1, 23, above[c], below[c]);
        }
        // By the ham both are in the other room; it makes no other FRACTION.
        x.event(0, 0, 1);
        for (int c = 0; c <= 16; c++) {
            chance(x, c, 1, 23, above[c], below[c]);
        }
    }

    private static void chanceHoursAndPeople() {
        DollsAhead x = Checks.house(STAR, "g00;g11;g22;g33;g44;g55;g66;g77");
        x.event(0, 23, 0);
        for (int p = 0; p < 8; p++) {
            chance(x, 4, p, 22, 1, 1);
            chance(x, 4, p, 23, 3, 4);
        }
        for (int p = 7; p >= 0; p--) {
            chance(x, 12, p, 23, 1, 4);
            chance(x, 12, p, 0, 1, 1);
        }
    }

    /** What was weighed before must not be told again behind a change. */
    private static void chanceChanges() {
        // The child turns; with two hours she is always with it, with one never.
        DollsAhead x = Checks.house("01", "c01;h00");
        x.ahead(2);
        chance(x, 4, 1, 5, 0, 1);
        x.ahead(1);
        chance(x, 4, 1, 5, 1, 1);
        x.event(1, 0, 0);
        chance(x, 4, 1, 5, 3, 4);
        x.event(1, 0, 0);
        chance(x, 4, 1, 5, 9, 16);
        x.back();
        chance(x, 4, 1, 5, 3, 4);
        chance(x, 12, 1, 5, 1, 4);
        chance(x, 4, 0, 23, 0, 1);
        x.wipe(1);
        Checks.typeAll(x, 1, "c00;h11");
        chance(x, 4, 1, 5, 1, 4);
        x.wipe(0);
        chance(x, 4, 1, 5, 1, 1);
        due("nothing is changed by it", x.count(4), 1);
    }

    // ---- weeks

    /** Held against a house to which the LOTS are told as EVENTS; they are drawn here in longs. */
    private static void weeks(int seed, int n) {
        String[] people = {"g05;c16;h27;g30;c41;h52;g63;c74", "g00;g01;g11", "c05;h33;g07"};
        for (String those : people) {
            DollsAhead x = Checks.house("01;12;23;34;45;56;67;70", those);
            DollsAhead told = Checks.house("01;12;23;34;45;56;67;70", those);
            long s = Math.floorMod((long) seed, 1L << 32);
            for (int e = 0; e < n; e++) {
                int[] lot = new int[3];
                int[] of = {2, 24, 8};
                for (int i = 0; i < 3; i++) {
                    s = (1103515245L * s + 12345) % (1L << 32);
                    lot[i] = (int) (s / 65536 % of[i]);
                }
                told.event(lot[0], lot[1], lot[2]);
            }
            String call = Calls.told("weeks", seed, n) + " of " + those;
            due(call + " alone", x.weeks(seed, n, 0), Integer.bitCount(told.alone()));
            due(call + " empty", x.weeks(seed, n, 1), Integer.bitCount(told.empty(0)));
        }
    }

    private static void lots() {
        int[] seeds = {0, 1, -1, 2, 7, 39, 97, -69, 65535, 65536, MOST, LEAST, MOST - 1, LEAST + 1, 123456789};
        for (int seed : seeds) {
            for (int n = 0; n <= 8; n++) {
                weeks(seed, n);
            }
        }
        for (int seed = 1000; seed < 1200; seed++) {
            weeks(seed * 7654321, 1 + seed % 8);
        }
    }

    private static void weeksInPlaceOfThoseTold() {
        DollsAhead x = Checks.house("01", "g01;g11");
        due("none told", x.weeks(5, 0, 0), 0);
        for (int e = 0; e < 8; e++) {
            x.event(1, 0, 0);
        }
        due("those told are not of them", x.weeks(5, 0, 0), 0);
        due("those told are not of them", x.weeks(5, 0, 1), 24);
        due("those told stay", x.count(4), 8);
        due("those told stay", x.alone(), 3);
        due("too many", x.weeks(5, 9, 0), BAD);
        due("too few", x.weeks(5, -1, 0), BAD);
        // The n EVENTS of an earlier week are no part of the next one.
        DollsAhead other = Checks.house("01", "g01;g11");
        other.weeks(97, 8, 0);
        due("a week of none behind one of eight", other.weeks(97, 0, 0), 0);
        due("a week by the same seed", other.weeks(97, 1, 0), 2);
        due("once more", other.weeks(97, 1, 0), 2);
    }

    private static void weeksWithoutHouse() {
        DollsAhead x = new DollsAhead();
        for (int n = 0; n <= 8; n++) {
            due("nobody alone", x.weeks(MOST, n, 0), 0);
            due("all hours empty", x.weeks(LEAST, n, 1), 24);
        }
    }
}
