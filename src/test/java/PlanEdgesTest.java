/** The edges of plans: the first and the last that can be best, ties, none, and no more room for a HAM. */
public final class PlanEdgesTest {
    private static final int NONE = -1, BAD = -2;
    private static final String STAR = "01;02;03;04;05;06;07";

    private static final Checks checks = new Checks();

    public static void main(String[] args) {
        sleep();
        sleepIsOnlyThought();
        sleepDrawsOthers();
        nice();
        niceHours();
        niceThoughAllEventsAreTold();
        lens();
        lensIsOnlyThought();
        aheadAsTold();
        spareNone();
        spareOne();
        spareTwo();
        spareTooMany();
        checks.end();
    }

    private static void due(String call, long got, long want) {
        checks.due(call, got, want);
    }

    private static void plan(String call, long which, long value, long wantWhich, long wantValue) {
        due(call + ": which", which, wantWhich);
        due(call + ": how many, or when", value, wantValue);
    }

    // ---- sleep

    private static void sleep(String call, DollsAhead x, int person, int bed, int hours) {
        plan("sleep " + call, x.sleep(person, 0), x.sleep(person, 1), bed, hours);
    }

    private static void sleep() {
        DollsAhead x = Checks.house(STAR, "g00;g11;g22;g33;g44;g55;g66;g00");
        sleep("in the last bed", x, 7, 7, 24);
        sleep("all other beds are taken", x, 0, 7, 24);
        sleep("in a bed of one that goes there, too", x, 1, 1, 24);
        x = Checks.house(STAR, "g00");
        sleep("of all beds the least", x, 0, 0, 24);
        x = Checks.house("", "g00;g00");
        sleep("never alone", x, 0, 0, 0);
        sleep("never alone", x, 1, 0, 0);
        x = Checks.house("01", "g00;g00");
        x.event(0, 1, 0);
        sleep("one hour, until the ham", x, 0, 1, 1);
        sleep("no other one", x, 2, BAD, BAD);
        x = Checks.house("01;12", "g00;g10;g22");
        sleep("its own bed is no better than a lesser one", x, 2, 1, 24);
        x.event(0, 23, 0);
        sleep("till the last hour", x, 2, 2, 24);
        x.event(0, 22, 0);
        sleep("but for the last hour", x, 2, 2, 23);
    }

    private static void sleepIsOnlyThought() {
        DollsAhead x = Checks.house(STAR, "c11;h00;g00");
        long before = x.digest();
        for (int p = 0; p < 3; p++) {
            x.sleep(p, 0);
            x.sleep(p, 1);
            due("its bed is as it was", x.person(p, 2), p == 0 ? 1 : 0);
            due("as it was", x.digest(), before);
        }
        // The plans behind it must not go on with the last bed that was tried.
        x.sleep(2, 0);
        plan("lens", x.lens(0), x.lens(1), 1, 0);
        due("alone", x.alone(), 4);
        due("spare", x.spare(NONE), NONE);
        x.sleep(2, 1);
        plan("nice", x.nice(0, 0), x.nice(0, 1), 1, 3);
        x.sleep(2, 0);
        due("chance", x.chance(16, 2, 23, 0), 1);
        x.sleep(0, 0);
        due("weeks", x.weeks(0, 0, 0), 1);
    }

    private static void sleepDrawsOthers() {
        // If the child turns between 0 and 1, she is three hours ahead in the other room, till she sees the last
        // hour: then she waits in 0, where it is behind 21 and 23.
        DollsAhead x = Checks.house("01", "c00;h00");
        sleep("the child is away from her but behind two hours", x, 0, 1, 22);
        sleep("her bed doesn't matter", x, 1, 0, 0);
    }

    // ---- nice

    private static void nice(String call, DollsAhead x, int hour, int room, int many) {
        plan("nice " + call, x.nice(hour, 0), x.nice(hour, 1), room, many);
    }

    private static void nice() {
        DollsAhead x = Checks.house("07", "g00;h77");
        nice("in the last room", x, 0, 7, 2);
        nice("in the last room", x, 23, 7, 2);
        x = Checks.house("", "g00;g11;g22");
        nice("nobody can come", x, 0, 0, 1);
        x = Checks.house(STAR, "g00;g11;g22;g33;g44;g55;g66;g77");
        nice("all come", x, 21, 0, 8);
        nice("one hour is enough for room 0", x, 23, 0, 8);
        nice("nobody", new DollsAhead(), 23, 0, 0);
        x = Checks.house(STAR, "c00;c00;c11");
        nice("nobody minds it", x, 0, 0, 2);
    }

    private static void niceHours() {
        DollsAhead x = Checks.house("01;12", "g00;h22");
        nice("in time", x, 22, 2, 2);
        nice("too late", x, 23, 0, 1);
        x.event(0, 23, 1);
        nice("in time, but another ham behind it", x, 22, 0, 1);
        nice("behind the ham of its hour, too late", x, 23, 0, 1);
        x.event(0, 23, 0);
        due("nothing was added", x.count(4), 2);
        due("nothing was added", x.at(23, 0, 0), 0);
    }

    private static void niceThoughAllEventsAreTold() {
        DollsAhead x = Checks.house("07", "g00;h77");
        for (int e = 0; e < 8; e++) {
            x.event(0, 23, 0);
        }
        nice("behind eight of its hour", x, 23, 7, 2);
        nice("ahead of eight", x, 22, 0, 1);
        due("eight", x.count(4), 8);
        due("as it was", x.at(23, 0, 0), 0);
        x = Checks.house("07;01;02", "g00;h77");
        for (int e = 0; e < 8; e++) {
            x.event(1, 3 * e, e < 7 ? 1 : 0);
        }
        nice("eight times shut", x, 0, 7, 2);
        nice("shut since hour 21", x, 21, 0, 1);
        nice("just ahead of it", x, 20, 7, 2);
    }

    // ---- lens

    private static void lens(String call, DollsAhead x, int ahead, int hour) {
        plan("lens " + call, x.lens(0), x.lens(1), ahead, hour);
    }

    private static void lens() {
        lens("nobody", new DollsAhead(), NONE, NONE);
        lens("no housekeeper", Checks.house(STAR, "c00;g00"), NONE, NONE);
        lens("no child", Checks.house(STAR, "h00;g00"), NONE, NONE);
        lens("no way", Checks.house("01", "h00;c77"), NONE, NONE);
        lens("of like ones the least", Checks.house("01", "h00;c00"), 1, 0);
        // The child turns between 0 and 1 (see WeekEdgesTest): with two hours she is always with it.
        lens("two", Checks.house("01;02;03;12;13;23", "c01;h22"), 2, 0);
        // Both go round a ring of eight, and one farther on: who sees the child at its end goes there at once.
        DollsAhead x = Checks.house("01;12;23;34;45;56;67;70", "c15;h30");
        lens("nine", x, 9, 15);
        for (int v = 1; v <= 9; v++) {
            x.ahead(v);
            int hour = x.found(0);
            due("by less it is later, or never", v < 9 && hour != NONE && hour <= 15 ? 1 : 0, 0);
            lens("by whatever it is", x, 9, 15);
        }
    }

    private static void lensIsOnlyThought() {
        DollsAhead x = Checks.house("01;02;03;12;13;23", "c01;h22");
        x.ahead(9);
        long before = x.digest();
        lens("two", x, 2, 0);
        due("as it was", x.digest(), before);
        due("found as it was", x.found(0), 15);
        due("ahead as it was", x.ahead(1), 9);
    }

    // ---- by how much the small house is ahead

    /** All plans but lens() are by AHEAD as told. */
    private static void aheadAsTold() {
        for (int v = 1; v <= 9; v++) {
            // The child turns between 0 and 1; she is in the other room if v is odd, till she sees the last hour.
            DollsAhead x = Checks.house("01", "c01;h00");
            x.ahead(v);
            sleep("ahead " + v, x, 1, 0, v % 2 == 0 ? v / 2 : 24 - (v + 1) / 2);
            // The child is in 0, 2, 0, 1 by turns. Who sees it in 2 goes from 3 to 5, else to 4, and is shut in there.
            boolean inFive = v % 4 == 1;
            x = Checks.house("10;02;14;43;35;52", "c12;h33;g11;g55");
            x.ahead(v);
            x.event(1, 1, 2);
            x.event(1, 1, 5);
            due("ahead " + v + ": where she is", x.at(23, 1, 0), inFive ? 5 : 4);
            nice("ahead " + v, x, 22, inFive ? 0 : 1, 2);
            spare("ahead " + v, x, inFive ? 0 : NONE, NONE, NONE);
        }
    }

    // ---- spare

    private static void spare(String call, DollsAhead x, int many, int first, int second) {
        due("spare " + call + ": how many", x.spare(NONE), many);
        due("spare " + call + ": the first", x.spare(0), first);
        due("spare " + call + ": the second", x.spare(1), second);
    }

    private static void spareNone() {
        spare("nobody", new DollsAhead(), 0, NONE, NONE);
        spare("no events, all with others", Checks.house("", "g00;g00"), 0, NONE, NONE);
        spare("no events, one alone", Checks.house("", "g00;g11"), NONE, NONE, NONE);
        DollsAhead x = Checks.house("", "g00;g00");
        for (int e = 0; e < 8; e++) {
            x.event(0, e, e);
        }
        spare("eight events, all with others", x, 0, NONE, NONE);
        x = Checks.house("", "g00");
        for (int e = 0; e < 8; e++) {
            x.event(0, e, e);
        }
        spare("eight events, one always alone", x, NONE, NONE, NONE);
        due("eight events", x.count(4), 8);
    }

    /** A guest who goes to the other one's room, if door 0 is open. */
    private static DollsAhead twoAndADoor(String doors) {
        return Checks.house(doors, "g01;g11");
    }

    private static void spareOne() {
        for (int which = 0; which < 8; which++) {
            DollsAhead x = twoAndADoor("01");
            for (int e = 0; e < 8; e++) {
                x.event(e == which ? 1 : 0, e == which ? 0 : 23, e == which ? 0 : 7);
            }
            spare("one of eight", x, 1, which, NONE);
        }
        DollsAhead x = twoAndADoor("01;01");
        x.event(1, 0, 0);
        x.event(1, 0, 1);
        spare("of two ways the least", x, 1, 0, NONE);
        x.back();
        x.event(1, 0, 0);
        spare("shut twice, another way", x, 0, NONE, NONE);
        x.event(1, 0, 1);
        spare("rather one than two", x, 1, 2, NONE);
    }

    private static void spareTwo() {
        for (int one = 0; one < 8; one++) {
            for (int other = one + 1; other < 8; other++) {
                DollsAhead x = twoAndADoor("01");
                for (int e = 0; e < 8; e++) {
                    boolean shuts = e == one || e == other;
                    x.event(shuts ? 1 : 0, shuts ? 0 : 23, shuts ? 0 : 7);
                }
                spare("two of eight", x, 2, one, other);
            }
        }
        DollsAhead x = twoAndADoor("01;01");
        x.event(1, 0, 0);
        x.event(1, 0, 1);
        x.event(1, 0, 1);
        x.event(1, 0, 0);
        spare("of two rows the least", x, 2, 0, 3);
        x.event(1, 0, 0);
        spare("the other row", x, 2, 1, 2);
    }

    private static void spareTooMany() {
        DollsAhead x = twoAndADoor("01");
        for (int e = 0; e < 3; e++) {
            x.event(1, 0, 0);
        }
        spare("three are too many", x, NONE, NONE, NONE);
        due("i", x.spare(2), BAD);
        due("i", x.spare(-2), BAD);
        x.back();
        spare("two are not", x, 2, 0, 1);
    }
}
