/** Each promise by itself, on houses small enough that the answers were worked out by hand. */
public final class PromisesTest {
    private static final int NONE = -1, BAD = -2, NOT = -3, FULL = -4;
    private static final int NULL = -11, INDEX = -12, CAST = -13, STORE = -14, SIZE = -15;
    private static final int LEAST = Integer.MIN_VALUE, MOST = Integer.MAX_VALUE;
    private static final int ALL_HOURS = (1 << 24) - 1;

    // ROOMS 0 to 3 in a row; 4 to 7 can't be got to.
    private static final String ROW = "01;12;23";
    // By HOURS 0 on: the guest is in 1 2 3 3 .., the child in 1 2 1 0 1 2 1 0 ..,
    // the housekeeper (AHEAD 3) in 2 1 2 1 0 1 2 1 0 .., from HOUR 20 on in 0.
    private static final String THREE = "g03;c02;h30";

    private static final Checks checks = new Checks();

    public static void main(String[] args) {
        promise1New();
        promise2Type();
        promise3Wipe();
        promise4Undo();
        promise5FaultOfDoors();
        promise5FaultOfPeople();
        promise6Door();
        promise7Person();
        promise8Ahead();
        promise9Event();
        promise9EventsOfOneHour();
        promise10Back();
        promise11Read();
        promise12At();
        promise12WaysOfGoing();
        promise13Room();
        promise14Far();
        promise15Meet();
        promise16Empty();
        promise17Found();
        promise18Crowd();
        promise19Alone();
        promise20Sleep();
        promise21Nice();
        promise22Lens();
        promise23Spare();
        promise24Seen();
        promise25Forget();
        promise26Never();
        promise27Was();
        promise28Ask();
        promise29Chance();
        promise30Weeks();
        promise31Sheet();
        promise32Lose();
        promise33Put();
        promise34Get();
        promise35Copy();
        promise36Write();
        promise37Count();
        promise38Digest();
        checks.end();
    }

    private static void due(String call, long got, long want) {
        checks.due(call, got, want);
    }

    private static DollsAhead three() {
        return Checks.house(ROW, THREE);
    }

    private static void promise1New() {
        DollsAhead x = new DollsAhead();
        int[] want = {0, 0, 0, 0, 0, 0, 8 * 24, 0, 0};
        for (int what = 0; what < want.length; what++) {
            due("1 count(" + what + ")", x.count(what), want[what]);
        }
        for (int s = 0; s < 4; s++) {
            due("1 lose(" + s + ")", x.lose(s), NULL);
        }
        due("1 ahead", x.ahead(4), 3);
        long before = x.digest();
        DollsAhead other = Checks.fullTexts();
        other.event(0, 0, 7);
        other.seen(0, 0, 0);
        other.sheet(0, 2, 60);
        other.chance(8, 0, 0, 0);
        due("1 each object is a house of its own", x.digest(), before);
        due("1 each object is a house of its own", x.lose(0), NULL);
        due("1 each object is a house of its own", x.ahead(3), 4);
        due("1 NONE", DollsAhead.NONE, NONE);
        due("1 BAD", DollsAhead.BAD, BAD);
        due("1 NOT", DollsAhead.NOT, NOT);
        due("1 FULL", DollsAhead.FULL, FULL);
    }

    private static void promise2Type() {
        DollsAhead x = new DollsAhead();
        due("2 a byte", x.type(0, 0), 1);
        due("2 a byte", x.type(0, 255), 2);
        due("2 a byte below", x.type(0, -1), BAD);
        due("2 a byte above", x.type(0, 256), BAD);
        due("2 no text", x.type(2, 48), BAD);
        due("2 no text", x.type(-1, 48), BAD);
        due("2 the other text", x.type(1, 48), 1);
        for (int i = 3; i <= 35; i++) {
            due("2 doors", x.type(0, '0'), i);
        }
        due("2 doors full", x.type(0, '0'), FULL);
        due("2 doors full, byte bad", x.type(0, 300), BAD);
        for (int i = 2; i <= 31; i++) {
            due("2 people", x.type(1, '0'), i);
        }
        due("2 people full", x.type(1, '0'), FULL);
        due("2 bytes of doors", x.count(2), 35);
        due("2 bytes of people", x.count(3), 31);
    }

    private static void promise3Wipe() {
        DollsAhead x = three();
        due("3 no text", x.wipe(2), BAD);
        due("3 no text", x.wipe(-1), BAD);
        due("3 doors", x.wipe(0), 8);
        due("3 doors again", x.wipe(0), 0);
        due("3 no doors left", x.count(0), 0);
        due("3 people stay", x.count(1), 3);
        due("3 people", x.wipe(1), 11);
        due("3 no people left", x.count(1), 0);
    }

    private static void promise4Undo() {
        DollsAhead x = Checks.house("01;", "g0");
        due("4 no text", x.undo(2), BAD);
        due("4 no text", x.undo(-1), BAD);
        due("4 a fault before", x.count(0), 0);
        due("4 doors", x.undo(0), 2);
        due("4 well behind", x.count(0), 1);
        due("4 people", x.undo(1), 1);
        due("4 people", x.undo(1), 0);
        due("4 empty", x.undo(1), NOT);
        due("4 doors stay", x.count(2), 2);
    }

    private static void fault(int text, String bytes, int want) {
        DollsAhead x = new DollsAhead();
        Checks.typeAll(x, text, bytes);
        due("5 fault of " + bytes, x.fault(text), want);
        int things = want == NONE ? (bytes.length() + 1) / (3 + text) : 0;
        due("5 things of " + bytes, x.count(text), things);
    }

    private static void promise5FaultOfDoors() {
        fault(0, "", NONE);
        fault(0, "07", NONE);
        fault(0, "0", 1);
        fault(0, "01;", 3);
        fault(0, "01;7", 4);
        fault(0, ";", 0);
        fault(0, "8", 0);
        fault(0, "08", 1);
        fault(0, "/1", 0);
        fault(0, "00", 1);
        fault(0, "01;33", 4);
        fault(0, "012", 2);
        fault(0, "01;;", 3);
        fault(0, "01;12;x", 6);
        fault(0, "0x;00", 1);
        fault(0, "01;12;23;34;45;56;67;70;02;13;24;35", NONE);
        fault(0, "01;12;23;34;45;56;67;70;02;13;24;", 33);
        DollsAhead x = new DollsAhead();
        due("5 no text", x.fault(2), BAD);
        due("5 no text", x.fault(-1), BAD);
    }

    private static void promise5FaultOfPeople() {
        fault(1, "", NONE);
        fault(1, "g00", NONE);
        fault(1, "c77;h00", NONE);
        fault(1, "g", 1);
        fault(1, "g0", 2);
        fault(1, "x", 0);
        fault(1, "G00", 0);
        fault(1, "g8", 1);
        fault(1, "gg", 1);
        fault(1, "g08", 2);
        fault(1, "g00g", 3);
        fault(1, "g00;", 4);
        fault(1, "g00;;", 4);
        fault(1, "g00;c1", 6);
        fault(1, "g00;c00;h00;g00;c00;h00;g00;c00", NONE);
        fault(1, "g00;c00;h00;g00;c00;h00;g00;c0;", 30);
    }

    private static void promise6Door() {
        DollsAhead x = Checks.house("01;72", "");
        due("6 one", x.door(0, 0), 0);
        due("6 other", x.door(0, 1), 1);
        due("6 one", x.door(1, 0), 7);
        due("6 other", x.door(1, 1), 2);
        due("6 no such door", x.door(2, 0), BAD);
        due("6 no such door", x.door(-1, 0), BAD);
        due("6 what", x.door(0, 2), BAD);
        due("6 what", x.door(0, -1), BAD);
        x.type(0, ';');
        due("6 with a fault", x.door(0, 0), BAD);
    }

    private static void promise7Person() {
        DollsAhead x = Checks.house("", "g03;c12;h74");
        int[] want = {0, 0, 3, 1, 1, 2, 2, 7, 4};
        for (int i = 0; i < want.length; i++) {
            due("7 person(" + i / 3 + ", " + i % 3 + ")", x.person(i / 3, i % 3), want[i]);
        }
        due("7 no such person", x.person(3, 0), BAD);
        due("7 no such person", x.person(-1, 0), BAD);
        due("7 what", x.person(0, 3), BAD);
        due("7 what", x.person(0, -1), BAD);
    }

    private static void promise8Ahead() {
        DollsAhead x = three();
        due("8 at 3", x.at(0, 1, 1), 0);
        due("8 was 3", x.ahead(1), 3);
        due("8 at 1", x.at(0, 1, 1), 2);
        due("8 too little", x.ahead(0), BAD);
        due("8 too much", x.ahead(10), BAD);
        due("8 was 1", x.ahead(9), 1);
        due("8 was 9", x.ahead(9), 9);
    }

    private static void promise9Event() {
        DollsAhead x = new DollsAhead();
        due("9 kind", x.event(2, 0, 0), BAD);
        due("9 kind", x.event(-1, 0, 0), BAD);
        due("9 hour", x.event(0, 24, 0), BAD);
        due("9 hour", x.event(0, -1, 0), BAD);
        due("9 room", x.event(0, 0, 8), BAD);
        due("9 room", x.event(0, 0, -1), BAD);
        due("9 door", x.event(1, 0, 12), BAD);
        due("9 door", x.event(1, 0, -1), BAD);
        due("9 a ham", x.event(0, 0, 7), 1);
        due("9 a door that there is not yet", x.event(1, 23, 11), 2);
        for (int e = 3; e <= 8; e++) {
            due("9 more", x.event(0, 0, 0), e);
        }
        due("9 full", x.event(0, 0, 0), FULL);
        due("9 bad before full", x.event(0, 24, 0), BAD);
        due("9 how many", x.count(4), 8);
    }

    private static void promise9EventsOfOneHour() {
        DollsAhead x = Checks.house(ROW, "g10");
        x.event(0, 2, 0);
        x.event(0, 2, 3);
        x.event(0, 1, 1);
        due("9 the bed, as there is no ham yet", x.at(0, 0, 0), 0);
        due("9 the ham of hour 1", x.at(1, 0, 0), 1);
        due("9 of one hour the later one", x.at(2, 0, 0), 2);
        due("9 it stays", x.at(23, 0, 0), 3);
        x.event(1, 2, 1);
        due("9 shut in the hour itself", x.at(2, 0, 0), 1);
        due("9 shut for good", x.at(23, 0, 0), 1);
    }

    private static void promise10Back() {
        DollsAhead x = Checks.house(ROW, "g00");
        due("10 none", x.back(), NOT);
        x.event(0, 0, 1);
        x.event(0, 1, 3);
        due("10 both", x.at(23, 0, 0), 3);
        due("10 one left", x.back(), 1);
        due("10 the first one", x.at(23, 0, 0), 1);
        due("10 none left", x.back(), 0);
        due("10 none", x.at(23, 0, 0), 0);
        due("10 none", x.back(), NOT);
    }

    private static void putAll(DollsAhead x, int s, int form, int... items) {
        x.sheet(s, form, items.length);
        for (int i = 0; i < items.length; i++) {
            x.put(s, form, i, items[i]);
        }
    }

    private static void promise11Read() {
        DollsAhead x = Checks.house(ROW, "g00");
        due("11 no sheet", x.read(4), BAD);
        due("11 no sheet", x.read(-1), BAD);
        due("11 lost", x.read(0), NULL);
        due("11 lost is told", x.count(8), 1);
        putAll(x, 0, 2, 0, 0, 3, 1, 5, 11, 0, 0);
        due("11 two are whole", x.read(0), 2);
        due("11 two", x.count(4), 2);
        due("11 they count", x.at(2, 0, 0), 3);
        putAll(x, 1, 0, 0, 1, 1, 1, 24, 1, 0, 1, 2);
        due("11 up to the first refused", x.read(1), 1);
        due("11 three", x.count(4), 3);
        due("11 behind those that there are", x.at(23, 0, 0), 1);
        x.sheet(2, 1, 60);
        due("11 until full", x.read(2), 5);
        due("11 full", x.read(2), 0);
        x.sheet(3, 1, 2);
        due("11 none is whole", x.read(3), 0);
        x.sheet(3, 1, 0);
        due("11 of no items", x.read(3), 0);
    }

    private static void promise12At() {
        DollsAhead x = three();
        int[] guest = {1, 2, 3, 3, 3, 3, 3, 3, 3};
        int[] child = {1, 2, 1, 0, 1, 2, 1, 0, 1};
        int[] keeper = {2, 1, 2, 1, 0, 1, 2, 1, 0};
        for (int h = 0; h < guest.length; h++) {
            due("12 guest at " + h, x.at(h, 0, 0), guest[h]);
            due("12 child at " + h, x.at(h, 1, 0), child[h]);
            due("12 housekeeper at " + h, x.at(h, 2, 0), keeper[h]);
        }
        due("12 small", x.at(0, 1, 1), 0);
        due("12 small, the last", x.at(20, 1, 1), 0);
        due("12 small, behind the last", x.at(21, 1, 1), NONE);
        due("12 it looks behind hour 23", x.at(22, 2, 0), 0);
        due("12 hour", x.at(24, 0, 0), BAD);
        due("12 hour", x.at(-1, 0, 0), BAD);
        due("12 person", x.at(0, 3, 0), BAD);
        due("12 person", x.at(0, -1, 0), BAD);
        due("12 what", x.at(0, 0, 2), BAD);
        due("12 what", x.at(0, 0, -1), BAD);
    }

    private static void promise12WaysOfGoing() {
        DollsAhead x = Checks.house("05;03;54;34", "g04;g40");
        due("12 the least room beside", x.at(0, 0, 0), 3);
        due("12 the least room beside", x.at(0, 1, 0), 3);
        x = Checks.house(ROW, "g05;c07;h02");
        due("12 a guest can't come there", x.at(23, 0, 0), 0);
        due("12 a child can't come there", x.at(23, 1, 0), 0);
        due("12 a housekeeper is with it", x.at(23, 2, 0), 0);
        x = Checks.house(ROW, "h03");
        due("12 no child: the bed", x.at(23, 0, 0), 3);
        x = Checks.house(ROW, "h00;c33;c11");
        due("12 the least child", x.at(23, 0, 0), 3);
        x = Checks.house("10;20;30", "g13;g23;g31");
        for (int p = 0; p < 3; p++) {
            due("12 a room with three doors", x.at(0, p, 0), 0);
        }
        x = Checks.house("01;01", "g01");
        x.event(1, 0, 0);
        due("12 the second door", x.at(0, 0, 0), 1);
        x = Checks.house(ROW, "c02");
        x.event(1, 2, 1);
        due("12 a child stays where it turned", x.at(23, 0, 0), 2);
        x = Checks.house(ROW, "c02");
        x.event(1, 1, 1);
        due("12 a child that was never there waits", x.at(23, 0, 0), 1);
    }

    private static void promise13Room() {
        DollsAhead x = three();
        due("13 two", x.room(0, 1), 3);
        due("13 one", x.room(0, 2), 4);
        due("13 none", x.room(0, 0), 0);
        due("13 at last", x.room(23, 0), 6);
        due("13 hour", x.room(24, 0), BAD);
        due("13 hour", x.room(-1, 0), BAD);
        due("13 room", x.room(0, 8), BAD);
        due("13 room", x.room(0, -1), BAD);
    }

    private static void promise14Far() {
        DollsAhead x = Checks.house("01;12;23;34;45;56;67", "");
        due("14 the same", x.far(0, 5, 5), 0);
        due("14 beside", x.far(0, 6, 5), 1);
        due("14 end to end", x.far(0, 0, 7), 7);
        x.event(1, 5, 3);
        due("14 not yet shut", x.far(4, 7, 0), 7);
        due("14 shut", x.far(5, 0, 7), NONE);
        due("14 on this side", x.far(5, 0, 3), 3);
        due("14 the same though shut", x.far(23, 4, 4), 0);
        x = Checks.house("01;12;23;34;45;56;67;70", "");
        for (int d = 0; d < 8; d++) {
            x.event(1, 1 + d, 7 - d);
        }
        due("14 the ring is whole", x.far(0, 0, 7), 1);
        for (int h = 1; h < 8; h++) {
            due("14 one door more is shut each hour", x.far(h, 0, 8 - h), 8 - h);
            due("14 one door more is shut each hour", x.far(h + 1, 0, 8 - h), NONE);
        }
        due("14 hour", x.far(24, 0, 0), BAD);
        due("14 hour", x.far(-1, 0, 0), BAD);
        due("14 one", x.far(0, 8, 0), BAD);
        due("14 one", x.far(0, -1, 0), BAD);
        due("14 other", x.far(0, 0, 8), BAD);
        due("14 other", x.far(0, 0, -1), BAD);
    }

    private static void promise15Meet() {
        DollsAhead x = three();
        due("15 at once", x.meet(0, 1), 0);
        due("15 never", x.meet(0, 2), NONE);
        due("15 late", x.meet(1, 2), 23);
        due("15 the other way", x.meet(2, 1), 23);
        due("15 one and the same", x.meet(1, 1), BAD);
        due("15 person", x.meet(3, 0), BAD);
        due("15 person", x.meet(0, 3), BAD);
        due("15 person", x.meet(-1, 0), BAD);
    }

    private static void promise16Empty() {
        DollsAhead x = three();
        int taken = 0;
        for (int h : new int[] {3, 7, 11, 15, 19, 23, 4, 8, 12, 16, 20, 21, 22}) {
            taken |= 1 << h;
        }
        due("16 at times", x.empty(0), ALL_HOURS & ~taken);
        due("16 always", x.empty(7), ALL_HOURS);
        due("16 from hour 2 on never", x.empty(3), 3);
        due("16 room", x.empty(8), BAD);
        due("16 room", x.empty(-1), BAD);
    }

    private static void promise17Found() {
        DollsAhead x = three();
        due("17 hour", x.found(0), 23);
        due("17 housekeeper", x.found(1), 2);
        due("17 child", x.found(2), 1);
        due("17 what", x.found(3), BAD);
        due("17 what", x.found(-1), BAD);
        x = Checks.house(ROW, "g00;h77;c33;c00;h33;h00;c33");
        due("17 of like ones the hour", x.found(0), 0);
        due("17 the least housekeeper with any", x.found(1), 4);
        due("17 the least child with it", x.found(2), 2);
        x = Checks.house(ROW, "c00;g00;h44");
        for (int what = 0; what <= 2; what++) {
            due("17 none", x.found(what), NONE);
        }
    }

    private static void promise18Crowd() {
        DollsAhead x = three();
        due("18 hour", x.crowd(0), 0);
        due("18 room", x.crowd(1), 1);
        due("18 how many", x.crowd(2), 2);
        due("18 what", x.crowd(3), BAD);
        due("18 what", x.crowd(-1), BAD);
        x = Checks.house(ROW, "g03;g23;g33;g00;g00");
        due("18 later but more", x.crowd(0), 2);
        due("18 there", x.crowd(1), 3);
        due("18 so many", x.crowd(2), 3);
        x = Checks.house(ROW, "g01;g31");
        due("18 at hour 1", x.crowd(0), 1);
        x = Checks.house(ROW, "g33;g33;g22;g22");
        due("18 of like rooms the least", x.crowd(1), 2);
        x = new DollsAhead();
        for (int what = 0; what <= 2; what++) {
            due("18 nobody", x.crowd(what), 0);
        }
    }

    private static void promise19Alone() {
        due("19 the guest", three().alone(), 1);
        due("19 all", Checks.house("", "g00;c11;h22").alone(), 7);
        due("19 one of three", Checks.house(ROW, "g11;g00;g11").alone(), 2);
        due("19 none of two twos", Checks.house(ROW, "g00;g00;g11;g11").alone(), 0);
        due("19 nobody", new DollsAhead().alone(), 0);
    }

    private static void promise20Sleep() {
        DollsAhead x = Checks.house(ROW, "g00;g11");
        due("20 its own bed will do", x.sleep(0, 0), 0);
        due("20 always", x.sleep(0, 1), 24);
        due("20 the least that is best", x.sleep(1, 0), 1);
        due("20 always", x.sleep(1, 1), 24);
        due("20 its bed is as it was", x.person(1, 2), 1);
        due("20 it is where it was", x.at(0, 1, 0), 1);
        x = Checks.house("01", "g00;g00");
        due("20 only beside", x.sleep(1, 0), 1);
        due("20 not at home", x.at(5, 1, 0), 0);
        x.event(1, 0, 0);
        due("20 shut in", x.sleep(1, 1), 0);
        x = Checks.house(ROW, "g00;h33;c33");
        due("20 a bed of the child that draws the housekeeper away", x.sleep(0, 1), 24);
        x = Checks.house("", "g00;g00");
        due("20 nowhere", x.sleep(1, 0), 0);
        due("20 never", x.sleep(1, 1), 0);
        due("20 person", x.sleep(2, 0), BAD);
        due("20 person", x.sleep(-1, 0), BAD);
        due("20 what", x.sleep(0, 2), BAD);
        due("20 what", x.sleep(0, -1), BAD);
    }

    private static void promise21Nice() {
        DollsAhead x = Checks.house(ROW, "g00;g33");
        due("21 too late", x.nice(23, 0), 0);
        due("21 too late", x.nice(23, 1), 1);
        due("21 just", x.nice(22, 0), 1);
        due("21 just", x.nice(22, 1), 2);
        due("21 in time", x.nice(21, 0), 0);
        due("21 it was only thought", x.at(23, 0, 0), 0);
        x.event(0, 22, 7);
        due("21 behind those of its hour", x.nice(22, 0), 1);
        for (int e = 2; e <= 8; e++) {
            x.event(1, 0, 11);
        }
        due("21 though there is no more room", x.nice(22, 0), 1);
        due("21 though there is no more room", x.nice(22, 1), 2);
        due("21 none was added", x.count(4), 8);
        x = Checks.house(ROW, "g03;g30");
        x.event(1, 0, 1);
        due("21 it can't help behind a shut door", x.nice(10, 1), 1);
        due("21 nobody", new DollsAhead().nice(0, 1), 0);
        due("21 hour", x.nice(24, 0), BAD);
        due("21 hour", x.nice(-1, 0), BAD);
        due("21 what", x.nice(0, 2), BAD);
        due("21 what", x.nice(0, -1), BAD);
    }

    private static void promise22Lens() {
        DollsAhead x = three();
        due("22 which", x.lens(0), 4);
        due("22 when", x.lens(1), 1);
        due("22 it was only thought", x.found(0), 23);
        due("22 ahead stays", x.ahead(4), 3);
        due("22 it comes true", x.found(0), 1);
        due("22 what", x.lens(2), BAD);
        due("22 what", x.lens(-1), BAD);
        x = Checks.house(ROW, "c00;h44");
        due("22 by none", x.lens(0), NONE);
        due("22 by none", x.lens(1), NONE);
        due("22 by all", Checks.house(ROW, "c00;h00").lens(0), 1);
        // Both go round a ring: the one that looks farthest ahead is the first to see where it will end.
        x = Checks.house("01;12;23;34;45;56;67;70", "c15;h30");
        due("22 the most", x.lens(0), 9);
        due("22 the most", x.lens(1), 15);
        x = three();
        x.event(1, 0, 2);
        due("22 with the event", x.lens(0), NONE);
    }

    private static void spare(DollsAhead x, int many, int first, int second) {
        due("23 how many", x.spare(NONE), many);
        due("23 the first", x.spare(0), first);
        due("23 the second", x.spare(1), second);
    }

    private static void promise23Spare() {
        spare(new DollsAhead(), 0, NONE, NONE);
        spare(Checks.house("", "g00;g11"), NONE, NONE, NONE);
        DollsAhead x = Checks.house(ROW, "g01;g11");
        spare(x, 0, NONE, NONE);
        x.event(0, 3, 7);
        x.event(1, 0, 0);
        spare(x, 1, 1, NONE);
        x.event(1, 0, 0);
        spare(x, 2, 1, 2);
        due("23 they stay", x.count(4), 3);
        x.event(1, 0, 0);
        spare(x, NONE, NONE, NONE);
        due("23 i", x.spare(2), BAD);
        due("23 i", x.spare(-2), BAD);
        x = Checks.house(ROW, "g10;g11");
        x.event(0, 23, 1);
        x.event(1, 1, 0);
        spare(x, 1, 1, NONE);
        x = Checks.house(ROW, "g01;g11");
        x.event(1, 0, 0);
        spare(x, 1, 0, NONE);
        x.event(1, 0, 0);
        spare(x, 2, 0, 1);
        x = Checks.house(ROW, "g01;g11");
        for (int e = 0; e < 7; e++) {
            x.event(0, 23, 7);
        }
        x.event(1, 0, 0);
        spare(x, 1, 7, NONE);
    }

    private static void promise24Seen() {
        DollsAhead x = new DollsAhead();
        due("24 hour", x.seen(24, 0, 0), BAD);
        due("24 hour", x.seen(-1, 0, 0), BAD);
        due("24 person", x.seen(0, 8, 0), BAD);
        due("24 person", x.seen(0, -1, 0), BAD);
        due("24 room", x.seen(0, 0, 8), BAD);
        due("24 room", x.seen(0, 0, -1), BAD);
        for (int i = 1; i <= 8; i++) {
            due("24 of one that there is not", x.seen(23, 7, 7), i);
        }
        due("24 full", x.seen(0, 0, 0), FULL);
        due("24 bad before full", x.seen(24, 0, 0), BAD);
        due("24 how many", x.count(7), 8);
    }

    private static void promise25Forget() {
        DollsAhead x = Checks.house(ROW, "g00");
        due("25 none", x.forget(), 0);
        x.seen(0, 0, 7);
        x.seen(0, 1, 0);
        due("25 can't be", x.was(0, 1), 0);
        due("25 two", x.forget(), 2);
        due("25 all can be", x.was(0, 1), 255);
        due("25 none left", x.count(7), 0);
        due("25 from one again", x.seen(0, 0, 0), 1);
    }

    private static void promise26Never() {
        DollsAhead x = Checks.house(ROW, "g00");
        due("26 no events", x.never(), 0);
        x.event(0, 0, 3);
        x.event(1, 9, 0);
        due("26 nothing seen", x.never(), 3);
        x.seen(2, 0, 3);
        due("26 the ham was", x.never(), 2);
        x.forget();
        x.seen(2, 0, 0);
        due("26 the ham never was", x.never(), 1);
        x.seen(3, 0, 3);
        due("26 all of it has to be so", x.never(), 0);
        x.forget();
        x.seen(0, 1, 0);
        due("26 nobody like that", x.never(), 0);
        x.forget();
        x.event(0, 0, 3);
        x.seen(2, 0, 0);
        due("26 each alone", x.never(), 0);
    }

    private static void promise27Was() {
        DollsAhead x = Checks.house(ROW, "c03;h00");
        due("27 any sort", x.was(0, 0), 7);
        due("27 any bed", x.was(0, 1), 255);
        x.seen(1, 0, 2);
        due("27 sorts", x.was(0, 0), 7);
        due("27 beds", x.was(0, 1), 12);
        x.seen(5, 0, 3);
        due("27 no child", x.was(0, 0), 5);
        due("27 no bed for a child", x.was(0, 1), 0);
        due("27 the other one", x.was(1, 0), 0);
        due("27 as told", x.person(0, 0), 1);
        due("27 as told", x.at(5, 0, 0), 0);
        x.forget();
        x.seen(0, 2, 0);
        due("27 nobody like that", x.was(0, 0), 0);
        due("27 person", x.was(2, 0), BAD);
        due("27 person", x.was(-1, 0), BAD);
        due("27 what", x.was(0, 2), BAD);
        due("27 what", x.was(0, -1), BAD);
        x = Checks.house(ROW, "g00");
        x.event(0, 0, 2);
        x.seen(1, 0, 2);
        due("27 a guest by the ham, a child or a housekeeper not", x.was(0, 0), 1);
        due("27 by any bed, as there is the ham", x.was(0, 1), 255);
        x = Checks.house(ROW, "h00;g33");
        x.seen(2, 0, 3);
        due("27 a child would draw the housekeeper", x.was(1, 0), 2);
    }

    private static void promise28Ask() {
        DollsAhead x = Checks.house(ROW, "g00");
        due("28 hour 0 is as good as any", x.ask(0), 0);
        x.seen(0, 0, 1);
        due("28 beds 1 to 3", x.was(0, 1), 14);
        due("28 apart at hour 2", x.ask(0), 2);
        x.seen(23, 0, 3);
        due("28 one bed", x.ask(0), 0);
        x.seen(23, 0, 2);
        due("28 no bed", x.ask(0), 0);
        x = Checks.house("01;02;03;04;05;06;07", "c00");
        due("28 each in its own room", x.ask(0), 0);
        x = Checks.house("21;10;23", "g20");
        x.seen(0, 0, 1);
        due("28 beds 0 and 1", x.was(0, 1), 3);
        due("28 apart at hour 1", x.ask(0), 1);
        x = Checks.house("12;23", "c14");
        x.seen(0, 0, 2);
        due("28 beds 2 and 3", x.was(0, 1), 12);
        due("28 apart at hour 1", x.ask(0), 1);
        due("28 person", x.ask(1), BAD);
        due("28 person", x.ask(-1), BAD);
    }

    private static void chance(DollsAhead x, int c, int person, int hour, long above, long below) {
        String call = "29 chance(" + c + ", " + person + ", " + hour + ")";
        due(call + " above", x.chance(c, person, hour, 0), above);
        due(call + " below", x.chance(c, person, hour, 1), below);
    }

    private static void promise29Chance() {
        DollsAhead x = Checks.house(ROW, "g00;g01");
        chance(x, 7, 0, 0, 1, 1);
        x.event(1, 0, 0);
        chance(x, 4, 0, 0, 3, 4);
        chance(x, 4, 1, 23, 3, 4);
        chance(x, 3, 1, 23, 13, 16);
        chance(x, 0, 1, 23, 1, 1);
        chance(x, 16, 1, 23, 0, 1);
        x.event(1, 0, 0);
        chance(x, 4, 0, 0, 9, 16);
        x.back();
        chance(x, 4, 0, 0, 3, 4);
        x.event(1, 5, 0);
        chance(x, 4, 0, 5, 3, 4);
        for (int e = 3; e <= 8; e++) {
            x.event(1, 0, 0);
        }
        // 13 sixteenths for each of seven, that none of them is.
        chance(x, 3, 0, 0, 62748517L, 268435456L);
        long bad = Long.MIN_VALUE + 2;
        due("29 c", x.chance(17, 0, 0, 0), bad);
        due("29 c", x.chance(-1, 0, 0, 0), bad);
        due("29 person", x.chance(0, 2, 0, 0), bad);
        due("29 person", x.chance(0, -1, 0, 0), bad);
        due("29 hour", x.chance(0, 0, 24, 0), bad);
        due("29 hour", x.chance(0, 0, -1, 0), bad);
        due("29 what", x.chance(0, 0, 0, 2), bad);
        due("29 what", x.chance(0, 0, 0, -1), bad);
    }

    private static void weeks(DollsAhead x, int seed, int n, int alone, int empty) {
        due("30 weeks(" + seed + ", " + n + ", 0)", x.weeks(seed, n, 0), alone);
        due("30 weeks(" + seed + ", " + n + ", 1)", x.weeks(seed, n, 1), empty);
    }

    private static void promise30Weeks() {
        DollsAhead x = Checks.house(ROW, "g00;g01");
        x.event(0, 0, 2);
        weeks(x, 5, 0, 2, 0);
        // By 39: a ham at 1 in 3, a ham at 12 in 0.
        weeks(x, 39, 1, 0, 23);
        weeks(x, 39, 2, 0, 13);
        // By 97, and by -69: door 0 is shut from 0 on.
        weeks(x, 97, 1, 0, 0);
        weeks(x, -69, 1, 0, 0);
        due("30 those told stay", x.count(4), 1);
        due("30 those told stay", x.at(23, 0, 0), 2);
        due("30 n", x.weeks(0, 9, 0), BAD);
        due("30 n", x.weeks(0, -1, 0), BAD);
        due("30 what", x.weeks(0, 0, 2), BAD);
        due("30 what", x.weeks(0, 0, -1), BAD);
        due("30 nobody", new DollsAhead().weeks(LEAST, 8, 1), 24);
    }

    private static void promise31Sheet() {
        DollsAhead x = new DollsAhead();
        due("31 sheet", x.sheet(4, 0, 0), BAD);
        due("31 sheet", x.sheet(-1, 0, 0), BAD);
        due("31 form", x.sheet(0, 3, 0), BAD);
        due("31 form", x.sheet(0, -1, 0), BAD);
        due("31 above", x.sheet(0, 0, 61), BAD);
        due("31 bad is no finding", x.count(8), 0);
        due("31 bad before size", x.sheet(0, 3, -1), BAD);
        due("31 below", x.sheet(0, 0, -1), SIZE);
        due("31 below is told", x.count(8), 5);
        due("31 it is lost still", x.lose(0), NULL);
        due("31 none", x.sheet(0, 0, 0), 0);
        due("31 most", x.sheet(3, 2, 60), 60);
        x.put(3, 2, 59, 7);
        due("31 a new row", x.sheet(3, 2, 60), 60);
        due("31 is of 0", x.get(3, 2, 59), 0);
        x.put(3, 2, 59, 7);
        due("31 below changes nothing", x.sheet(3, 0, -1), SIZE);
        due("31 as it was", x.get(3, 2, 59), 7);
    }

    private static void promise32Lose() {
        DollsAhead x = new DollsAhead();
        due("32 sheet", x.lose(4), BAD);
        due("32 sheet", x.lose(-1), BAD);
        due("32 lost", x.lose(2), NULL);
        due("32 lost is told", x.count(8), 1);
        x.sheet(2, 1, 9);
        due("32 nine", x.lose(2), 9);
        due("32 lost", x.lose(2), NULL);
        x.sheet(2, 1, 0);
        due("32 of none", x.lose(2), 0);
    }

    private static void promise33Put() {
        DollsAhead x = new DollsAhead();
        due("33 sheet", x.put(4, 0, 0, 0), BAD);
        due("33 sheet", x.put(-1, 0, 0, 0), BAD);
        due("33 form", x.put(0, 3, 0, 0), BAD);
        due("33 form", x.put(0, -1, 0, 0), BAD);
        due("33 lost", x.put(0, 0, 99, 0), NULL);
        due("33 told", x.count(8), 1);
        x.sheet(0, 1, 2);
        due("33 cast before index", x.put(0, 0, 2, 0), CAST);
        due("33 told", x.count(8), 3);
        due("33 index", x.put(0, 1, 2, 0), INDEX);
        due("33 index", x.put(0, 1, -1, 0), INDEX);
        due("33 told", x.count(8), 2);
        due("33 put", x.put(0, 1, 1, 0x18000), 1);
        due("33 a short", x.get(0, 1, 1), -32768);
        x.sheet(1, 0, 1);
        x.put(1, 0, 0, 255);
        due("33 a byte", x.get(1, 0, 0), -1);
        x.put(1, 0, 0, 0x17f);
        due("33 a byte", x.get(1, 0, 0), 127);
        x.sheet(2, 2, 1);
        x.put(2, 2, 0, LEAST);
        due("33 an int", x.get(2, 2, 0), LEAST);
        due("33 no finding", x.count(8), 2);
    }

    private static void promise34Get() {
        DollsAhead x = new DollsAhead();
        due("34 sheet", x.get(4, 0, 0), LEAST);
        due("34 form", x.get(0, 3, 0), LEAST);
        due("34 bad is no finding", x.count(8), 0);
        due("34 lost", x.get(0, 0, 0), LEAST);
        due("34 told", x.count(8), 1);
        putAll(x, 0, 2, 5, 6);
        due("34 cast", x.get(0, 1, 9), LEAST);
        due("34 told", x.count(8), 3);
        due("34 index", x.get(0, 2, 2), LEAST);
        due("34 told", x.count(8), 2);
        due("34 index", x.get(0, 2, -1), LEAST);
        due("34 item", x.get(0, 2, 0), 5);
        due("34 item", x.get(0, 2, 1), 6);
        x.get(-1, 0, 0);
        due("34 the latest finding stays", x.count(8), 2);
    }

    private static void promise35Copy() {
        DollsAhead x = new DollsAhead();
        due("35 sheet", x.copy(4, 0, 0, 0, 0), BAD);
        due("35 sheet", x.copy(0, 0, -1, 0, 0), BAD);
        due("35 both lost", x.copy(0, 0, 1, 0, 0), NULL);
        putAll(x, 0, 2, 1, 2, 3, 4, 5);
        due("35 the other one lost", x.copy(0, 0, 1, 0, 1), NULL);
        due("35 the one lost", x.copy(1, 0, 0, 0, 1), NULL);
        x.sheet(1, 1, 5);
        due("35 unlike forms before index", x.copy(0, 9, 1, 0, 1), STORE);
        due("35 told", x.count(8), 4);
        x.sheet(1, 2, 3);
        int[][] bad = {{-1, 0, 1}, {0, -1, 1}, {0, 0, -1}, {0, 0, 4}, {5, 0, 1}, {3, 0, 3}, {0, 2, 2},
            {6, 0, 0}, {0, 4, 0}, {1, 0, MOST}, {MOST, 0, 1}, {0, MOST, MOST}, {LEAST, LEAST, LEAST}};
        for (int[] b : bad) {
            due("35 index", x.copy(0, b[0], 1, b[1], b[2]), INDEX);
        }
        due("35 told", x.count(8), 2);
        due("35 nothing came", x.get(1, 2, 0), 0);
        due("35 none, at the ends", x.copy(0, 5, 1, 3, 0), 1);
        due("35 two", x.copy(0, 3, 1, 1, 2), 1);
        due("35 ahead stays", x.get(1, 2, 0), 0);
        due("35 came", x.get(1, 2, 1), 4);
        due("35 came", x.get(1, 2, 2), 5);
        due("35 in itself", x.copy(0, 0, 0, 1, 4), 1);
        int[] want = {1, 1, 2, 3, 4};
        for (int i = 0; i < 5; i++) {
            due("35 as they were", x.get(0, 2, i), want[i]);
        }
    }

    private static void promise36Write() {
        DollsAhead x = three();
        due("36 person", x.write(3, 0), BAD);
        due("36 person", x.write(-1, 0), BAD);
        due("36 sheet", x.write(0, 4), BAD);
        due("36 sheet", x.write(0, -1), BAD);
        due("36 lost", x.write(0, 0), NULL);
        due("36 told", x.count(8), 1);
        putAll(x, 0, 0, 9, 9, 9, 9);
        due("36 as many as there are", x.write(1, 0), 4);
        int[] child = {1, 2, 1, 0};
        for (int i = 0; i < 4; i++) {
            due("36 room", x.get(0, 0, i), child[i]);
        }
        x.sheet(1, 2, 30);
        x.put(1, 2, 24, 77);
        due("36 24 at most", x.write(0, 1), 24);
        due("36 the last", x.get(1, 2, 23), 3);
        due("36 behind it as it was", x.get(1, 2, 24), 77);
        x.sheet(2, 1, 0);
        due("36 none", x.write(0, 2), 0);
    }

    private static void promise37Count() {
        DollsAhead x = three();
        x.event(0, 23, 7);
        x.seen(0, 0, 0);
        x.seen(0, 0, 0);
        x.lose(0);
        int empty = 0;
        for (int r = 0; r < 8; r++) {
            empty += Integer.bitCount(x.empty(r));
        }
        int[] want = {3, 3, 8, 11, 1, 1, empty, 2, 1};
        for (int what = 0; what < want.length; what++) {
            due("37 count(" + what + ")", x.count(what), want[what]);
        }
        due("37 what", x.count(9), BAD);
        due("37 what", x.count(-1), BAD);
        due("37 bad is no finding", x.count(8), 1);
        x.type(0, 'x');
        due("37 with a fault", x.count(0), 0);
        due("37 with a fault, its bytes", x.count(2), 9);
    }

    private static DollsAhead fullHouse() {
        DollsAhead x = Checks.fullTexts();
        for (int e = 0; e < 4; e++) {
            x.event(0, 5 * e + 2, 7 - 2 * e);
            x.event(1, 4 * e + 1, 3 * e + 2);
        }
        for (int h = 0; h < 8; h++) {
            x.seen(h, h, x.at(h, h, 0));
        }
        return x;
    }

    private static void digestOfItsAnswers(DollsAhead x) {
        due("38 of its answers", x.digest(), Digests.ofAnswers(x));
    }

    private static void promise38Digest() {
        DollsAhead x = new DollsAhead();
        // What the empty house tells: each by hand from the promises ahead.
        Digests all = new Digests().mix(0, 0, 0, 0, 0, 0, 192, 0, NONE, NONE);
        for (int r = 0; r < 8; r++) {
            all.mix(ALL_HOURS, r == 0 ? 0 : NONE, r == 5 ? 0 : NONE);
        }
        all.mix(NONE, NONE, NONE, 0, 0, 0, 0, 0, 0, NONE, NONE, 0, NONE, 0, 0, 24);
        due("38 of a new house", x.digest(), all.wrapped());
        x = Checks.house("04;15;54;51", "g03;c40;h14;c51");
        x.event(0, 7, 1);
        x.event(1, 9, 0);
        x.event(0, 11, 5);
        x.seen(4, 0, 4);
        x.ahead(2);
        digestOfItsAnswers(x);
        x = fullHouse();
        due("38 full of doors", x.count(0), 12);
        due("38 full of people", x.count(1), 8);
        due("38 full of events", x.count(4), 8);
        due("38 full of what was seen", x.count(7), 8);
        digestOfItsAnswers(x);
        // A new house each time: one object answers 512 calls.
        x = fullHouse();
        x.undo(0);
        x.type(0, 'x');
        digestOfItsAnswers(x);
        x = fullHouse();
        x.undo(1);
        digestOfItsAnswers(x);
        x = three();
        long before = x.digest();
        x.event(0, 24, 0);
        x.type(0, 256);
        x.lose(0);
        x.ahead(0);
        x.back();
        due("38 refusals change nothing", x.digest(), before);
        x.event(1, 0, 11);
        due("38 an event changes it", x.digest() == before ? 1 : 0, 0);
        x.back();
        due("38 undone", x.digest(), before);
        x.sheet(0, 0, 3);
        due("38 of sheets it tells nothing", x.digest(), before);
    }
}
