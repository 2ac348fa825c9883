/** The edges of hours: EVENTS, AHEAD, how FAR, who goes where, who meets whom. */
public final class WeekEdgesTest {
    private static final int NONE = -1, BAD = -2, NOT = -3, FULL = -4;
    private static final int ALL_HOURS = (1 << 24) - 1;
    private static final String ROW = "01;12;23;34;45;56;67";
    // From ROOM 0 each other one is beside.
    private static final String STAR = "01;02;03;04;05;06;07";
    // Of ROOMS 0 to 3 each is beside each.
    private static final String ALL_BESIDE = "01;02;03;12;13;23";

    private static final Checks checks = new Checks();

    public static void main(String[] args) {
        hams();
        shutDoors();
        doorsThatThereAreNot();
        eventsOfOneHour();
        eventsNoneAndEight();
        ahead();
        housekeepers();
        housekeepersOnTheWay();
        housekeepersTurningAbout();
        children();
        guests();
        theLeastRoomBeside();
        far();
        meet();
        rooms();
        empty();
        found();
        crowd();
        alone();
        checks.end();
    }

    private static void due(String call, long got, long want) {
        checks.due(call, got, want);
    }

    // ---- events

    private static void hams() {
        for (int hour : new int[] {0, 1, 22, 23}) {
            DollsAhead x = Checks.house(STAR, "g00");
            due("a ham", x.event(0, hour, 7), 1);
            for (int h = 0; h < 24; h++) {
                due("ham at " + hour + ", guest at " + h, x.at(h, 0, 0), h < hour ? 0 : 7);
            }
        }
        DollsAhead x = Checks.house(STAR, "g07");
        x.event(0, 12, 0);
        due("to the bed, as there is no ham yet", x.at(11, 0, 0), 7);
        due("a ham in room 0 is one, too", x.at(12, 0, 0), 0);
        due("it stays", x.at(23, 0, 0), 0);
    }

    private static void shutDoors() {
        for (int hour : new int[] {0, 1, 22, 23}) {
            DollsAhead x = Checks.house("01;12", "");
            x.event(1, hour, 1);
            for (int h = 0; h < 24; h++) {
                due("shut at " + hour + ", far at " + h, x.far(h, 2, 0), h < hour ? 2 : NONE);
                due("the other door is not shut", x.far(h, 0, 1), 1);
            }
        }
        DollsAhead x = Checks.house("01;10", "g00");
        x.event(0, 5, 1);
        x.event(1, 5, 0);
        due("one of two doors between is shut", x.far(5, 0, 1), 1);
        due("the other one will do", x.at(5, 0, 0), 1);
        x.event(1, 5, 1);
        due("both are shut", x.far(5, 0, 1), NONE);
        due("shut in the hour of the ham", x.at(5, 0, 0), 0);
        due("not yet shut", x.far(4, 0, 1), 1);
        x = Checks.house("01", "");
        x.event(1, 9, 0);
        x.event(1, 4, 0);
        x.event(1, 15, 0);
        due("shut thrice, open before all", x.far(3, 0, 1), 1);
        due("shut thrice, the soonest counts", x.far(4, 0, 1), NONE);
        due("for good", x.far(23, 0, 1), NONE);
    }

    private static void doorsThatThereAreNot() {
        DollsAhead x = Checks.house("01;12", "g02");
        for (int d = 2; d <= 8; d++) {
            due("a door that there is not", x.event(1, 0, d), d - 1);
        }
        due("they shut nothing", x.far(23, 0, 2), 2);
        due("they shut nobody in", x.at(1, 0, 0), 2);
        x = Checks.fullTexts();
        x.event(1, 6, 11);
        due("the last door, open", x.far(5, 3, 7), 1);
        due("the last door, shut", x.far(6, 3, 7), 3);
        x = Checks.fullTexts();
        x.event(1, 6, 0);
        due("the first door, open", x.far(5, 1, 0), 1);
        due("the first door, shut", x.far(6, 1, 0), 3);
    }

    private static void eventsOfOneHour() {
        DollsAhead x = Checks.house(STAR, "g00");
        for (int room = 0; room < 8; room++) {
            x.event(0, 4, room);
        }
        for (int room = 7; room >= 0; room--) {
            due("the last ham of an hour stays", x.at(4, 0, 0), room);
            due("before it there is none", x.at(3, 0, 0), 0);
            due("back", x.back(), room);
        }
        due("no ham", x.at(4, 0, 0), 0);
        x = Checks.house(STAR, "g00");
        x.event(0, 20, 1);
        x.event(0, 10, 2);
        x.event(0, 10, 3);
        x.event(0, 0, 0);
        due("by hours first", x.at(9, 0, 0), 0);
        due("then by numbers", x.at(10, 0, 0), 3);
        due("a later hour is later", x.at(20, 0, 0), 0);
        due("by way of room 0", x.at(21, 0, 0), 1);
    }

    private static void eventsNoneAndEight() {
        DollsAhead x = Checks.house(ROW, "g07");
        due("no events", x.count(4), 0);
        due("nothing to undo", x.back(), NOT);
        due("all doors are open", x.far(23, 0, 7), 7);
        for (int d = 0; d < 7; d++) {
            x.event(1, 23 - d, d);
        }
        due("an eighth one", x.event(0, 2, 0), 8);
        due("a ninth one", x.event(0, 0, 0), FULL);
        due("the ham", x.at(3, 0, 0), 0);
        for (int d = 0; d < 7; d++) {
            due("not yet shut", x.far(22 - d, d, d + 1), 1);
            due("shut", x.far(23 - d, d, d + 1), NONE);
        }
        for (int left = 7; left >= 0; left--) {
            due("back", x.back(), left);
        }
        due("none left", x.back(), NOT);
        due("all doors are open again", x.far(23, 0, 7), 7);
        due("one more again", x.event(0, 0, 0), 1);
    }

    // ---- the small house, and who looks into it

    private static void ahead() {
        for (int v = 1; v <= 9; v++) {
            DollsAhead x = Checks.house(ALL_BESIDE, "c01;h22");
            due("three at first", x.ahead(v), 3);
            due("it was " + v, x.ahead(v), v);
            for (int h = 0; h < 24; h++) {
                String when = "ahead " + v + ", hour " + h;
                due(when + ": the child", x.at(h, 0, 0), childTurning(h));
                due(when + ": the child, small", x.at(h, 0, 1), h + v > 23 ? NONE : childTurning(h + v));
                due(when + ": the housekeeper", x.at(h, 1, 0), childTurning(Math.min(h + v, 23)));
                int then = childTurning(Math.min(h + v + v, 23));
                due(when + ": the housekeeper, small", x.at(h, 1, 1), h + v > 23 ? NONE : then);
            }
            due("found, ahead " + v, x.found(0), v % 2 == 0 ? 0 : 24 - v);
            due("too little", x.ahead(0), BAD);
            due("too much", x.ahead(10), BAD);
            due("it stays", x.ahead(9), v);
        }
    }

    /** Between ROOMS 0 and 1, from 0 on. */
    private static int childTurning(int hour) {
        return hour % 2 == 0 ? 1 : 0;
    }

    private static void housekeepers() {
        DollsAhead x = Checks.house(STAR, "h07;g00;g11");
        due("no child: to the bed", x.at(0, 0, 0), 7);
        due("no child: in the bed", x.at(23, 0, 0), 7);
        x = Checks.house(STAR, "h00;g11;c77;c11;h66");
        due("to the least child, not the least room", x.at(0, 0, 0), 7);
        due("another one, too", x.at(1, 4, 0), 7);
        x = Checks.house(STAR, "g00;g00;g00;g00;g00;g00;h01;c33");
        due("a child that is the last of eight", x.at(0, 6, 0), 3);
        x = Checks.house("01", "h00;c77");
        due("a child that can't be come to", x.at(23, 0, 0), 0);
        x = Checks.house(STAR, "c01;h22");
        x.event(1, 0, 0);
        due("to a child that can't go", x.at(0, 1, 0), 0);
        // The child turns between 0 and 1 until door 0 is shut behind it: from hour 6 on it is in 1.
        x = Checks.house("10;02;23", "h33;c01");
        x.event(1, 7, 0);
        int[] keeper = {2, 0, 0, 1, 1};
        for (int h = 0; h < keeper.length; h++) {
            due("three hours ahead of the child at " + h, x.at(h, 0, 0), keeper[h]);
        }
        due("both are shut in", x.room(23, 1), 3);
        x = Checks.house("10;02;23", "h33;c01");
        x.event(1, 4, 0);
        due("the child is shut out in 0", x.room(23, 0), 3);
        x.ahead(1);
        due("it goes there the straight way", x.at(0, 0, 0), 2);
    }

    /** In a row she goes a ROOM on to where the child will be, to the last hour on, though she sees no farther. */
    private static void housekeepersOnTheWay() {
        for (int bed = 1; bed < 8; bed++) {
            for (int v = 1; v <= 9; v++) {
                DollsAhead x = Checks.house(ROW, "c0" + bed + ";h77");
                x.ahead(v);
                int keeper = 7;
                for (int h = 0; h < 24; h++) {
                    keeper += Integer.signum(childInARow(bed, Math.min(h + v, 23)) - keeper);
                    due("ahead " + v + " of a child with bed " + bed + " at " + h, x.at(h, 1, 0), keeper);
                }
            }
        }
    }

    /** In a ring of four she is ever on the wrong side of it, until she has seen the last hour: then she goes on. */
    private static void housekeepersTurningAbout() {
        for (int v = 1; v <= 9; v++) {
            DollsAhead x = Checks.house("74;61;46;17", "c47;h10");
            x.ahead(v);
            for (int h = 0; h < 24; h++) {
                boolean even = h % 2 == 0;
                int child = Math.min(h + v, 23) % 2 == 0 ? 7 : 4;
                int want = v % 2 == 0 || h + v > 23 ? child : even ? 6 : 1;
                due("ring, ahead " + v + ", hour " + h, x.at(h, 1, 0), want);
            }
        }
    }

    /** From 0 on to its bed, and to and fro. */
    private static int childInARow(int bed, int hour) {
        int place = (hour + 1) % (2 * bed);
        return place <= bed ? place : 2 * bed - place;
    }

    private static void children() {
        for (int bed = 1; bed < 8; bed++) {
            DollsAhead x = Checks.house(ROW, "c0" + bed);
            for (int h = 0; h < 24; h++) {
                due("child with bed " + bed + " at " + h, x.at(h, 0, 0), childInARow(bed, h));
            }
        }
        DollsAhead x = Checks.house(ROW, "c33");
        for (int h = 0; h < 24; h++) {
            due("a child that was in its bed at first", x.at(h, 0, 0), 3);
        }
        x = Checks.house(ROW, "c03");
        x.event(0, 0, 7);
        due("a child doesn't mind the ham", x.at(3, 0, 0), 2);
        // In its bed behind hour 2, when the door behind it is shut: it waits there.
        x = Checks.house(ROW, "c03");
        x.event(1, 3, 2);
        due("waits in the bed", x.at(23, 0, 0), 3);
        x = Checks.house(ROW, "c03");
        x.event(1, 2, 2);
        due("waits ahead of the door", x.at(23, 0, 0), 2);
    }

    private static void guests() {
        DollsAhead x = Checks.house(ROW, "g07;g77;g70");
        due("by one door", x.at(0, 0, 0), 1);
        due("seven hours", x.at(5, 0, 0), 6);
        due("seven hours", x.at(6, 0, 0), 7);
        due("there it stays", x.at(23, 0, 0), 7);
        due("it was there", x.at(0, 1, 0), 7);
        due("the other way", x.at(6, 2, 0), 0);
        x = Checks.house("01;12;67", "g02");
        x.event(0, 1, 7);
        due("a ham that can't be come to: not to the bed", x.at(23, 0, 0), 1);
    }

    private static void theLeastRoomBeside() {
        // From 0 to 7 by 6, 5 or 3, told in this order; 1 is beside, but not less far.
        DollsAhead x = Checks.house("60;76;05;57;10;03;73", "g07;g70");
        due("the least that is less far", x.at(0, 0, 0), 3);
        due("the other way, too", x.at(0, 1, 0), 3);
        x.event(1, 0, 5);
        due("the next one, as its door is shut", x.at(0, 0, 0), 5);
        due("the other way 3 is less far no more", x.at(0, 1, 0), 5);
        x = Checks.house("01;12;23;37;05;56;67", "g07");
        due("of three doors rather than four", x.at(0, 0, 0), 5);
    }

    // ---- rooms

    private static void far() {
        DollsAhead x = Checks.house(ROW, "");
        for (int d = 0; d < 7; d++) {
            x.event(1, 10, d);
        }
        for (int one = 0; one < 8; one++) {
            for (int other = 0; other < 8; other++) {
                due("in a row", x.far(0, one, other), Math.abs(one - other));
                due("in a row", x.far(9, one, other), Math.abs(one - other));
                due("all shut", x.far(10, one, other), one == other ? 0 : NONE);
                due("all shut", x.far(23, one, other), one == other ? 0 : NONE);
            }
        }
        x = Checks.fullTexts();
        due("two sides of a ring", x.far(0, 1, 7), 2);
        due("across", x.far(0, 2, 6), 1);
    }

    private static void meet() {
        for (int hour : new int[] {0, 1, 23}) {
            DollsAhead x = Checks.house("01", "g00;g11");
            due("never", x.meet(0, 1), NONE);
            x.event(0, hour, 0);
            due("at " + hour, x.meet(0, 1), hour);
            due("the other way", x.meet(1, 0), hour);
        }
        DollsAhead x = Checks.house("01", "g01;g10");
        due("in the door they don't meet", x.meet(0, 1), NONE);
        x = Checks.fullTexts();
        due("the first and the last", x.meet(0, 7) >= NONE ? 1 : 0, 1);
        due("one that there is not", x.meet(0, 8), BAD);
        due("one and the same that there is not", x.meet(8, 8), BAD);
    }

    private static void rooms() {
        DollsAhead x = Checks.house(STAR, "g00;g11;g22;g33;g44;g55;g66;g77");
        for (int r = 0; r < 8; r++) {
            due("one in each", x.room(0, r), 1 << r);
            due("one in each", x.room(23, r), 1 << r);
            due("never empty", x.empty(r), 0);
        }
        due("all alone", x.alone(), 255);
        due("all alone", x.count(5), 8);
        due("no hours empty", x.count(6), 0);
        x = Checks.house(STAR, "g77;g77;g77;g77;g77;g77;g77;g77");
        due("all in one", x.room(0, 7), 255);
        due("all in one", x.room(23, 7), 255);
        due("none alone", x.alone(), 0);
        due("all other rooms are empty", x.count(6), 7 * 24);
        due("a crowd of eight", x.crowd(2), 8);
        due("in the last room", x.crowd(1), 7);
    }

    private static void empty() {
        DollsAhead x = new DollsAhead();
        for (int r = 0; r < 8; r++) {
            due("nobody", x.empty(r), ALL_HOURS);
        }
        x = Checks.house("01;12", "g02");
        due("but at first, which is not behind an hour", x.empty(0), ALL_HOURS);
        due("but behind hour 0", x.empty(1), ALL_HOURS - 1);
        due("behind hour 0 alone", x.empty(2), 1);
        x = Checks.house("01", "g00");
        x.event(0, 23, 1);
        due("behind hour 23 alone", x.empty(0), 1 << 23);
        due("but behind hour 23", x.empty(1), (1 << 23) - 1);
    }

    private static void found() {
        DollsAhead x = Checks.house("01", "g00;c00;g00");
        due("no housekeeper", x.found(0), NONE);
        x = Checks.house("01", "g00;h00;g00");
        due("no child", x.found(1), NONE);
        x = Checks.house("01", "g00;g00;g00;g00;g00;g00;h00;c00");
        due("at once", x.found(0), 0);
        due("the last but one", x.found(1), 6);
        due("the last", x.found(2), 7);
        x = Checks.house(STAR, "c77;c11;h11;h77");
        x.event(1, 0, 0);
        x.event(1, 0, 6);
        due("not the least child, as another is nearer", x.found(2), 1);
        due("by the least housekeeper", x.found(1), 2);
        // Each two rooms from the other; ahead 1 of a child that turns, see ahead().
        x = Checks.house(ALL_BESIDE, "c01;h22");
        x.ahead(1);
        due("behind the last hour", x.found(0), 23);
        due("behind the last hour", x.found(1), 1);
        due("behind the last hour", x.found(2), 0);
    }

    private static void crowd() {
        DollsAhead x = Checks.house("67", "g66;g77");
        due("one is a crowd", x.crowd(2), 1);
        due("at first", x.crowd(0), 0);
        due("in the least room", x.crowd(1), 6);
        x.event(0, 23, 7);
        due("behind the last hour", x.crowd(0), 23);
        due("in the last room", x.crowd(1), 7);
        due("two", x.crowd(2), 2);
        x = Checks.house("01;23", "g00;g11;g22;g33");
        x.event(0, 5, 3);
        due("when two come together", x.crowd(0), 5);
        due("where two come together", x.crowd(1), 3);
        x = new DollsAhead();
        for (int what = 0; what <= 2; what++) {
            due("nobody", x.crowd(what), 0);
        }
    }

    private static void alone() {
        DollsAhead x = Checks.house("01", "g00;g11");
        due("both", x.alone(), 3);
        x.event(0, 23, 1);
        due("behind hour 23 none", x.alone(), 0);
        due("none", x.count(5), 0);
        x.back();
        x.event(0, 0, 0);
        due("none since hour 0", x.alone(), 0);
        due("nobody", new DollsAhead().alone(), 0);
    }
}
