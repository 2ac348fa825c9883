/** The edges of texts: each byte at each place, empty and full, FAULTS, and what a text with a FAULT is worth. */
public final class TextEdgesTest {
    private static final int NONE = -1, BAD = -2, FULL = -4;
    private static final int ALL_HOURS = (1 << 24) - 1;
    private static final String FIGURES = "01234567";

    private static final Checks checks = new Checks();

    public static void main(String[] args) {
        bytesOfDoors();
        bytesOfPeople();
        endsOfTexts();
        fullTexts();
        bytesOfAllSorts();
        theFirstFaultStays();
        doorsWithAFault();
        peopleWithAFault();
        aTextAnswersForItselfAlone();
        changesAreFeltAtOnce();
        checks.end();
    }

    private static void due(String call, long got, long want) {
        checks.due(call, got, want);
    }

    /** Behind a beginning that is well, each byte: those that go on, and the FAULT behind one of them. */
    private static void goOn(int text, String before, String those, int fault) {
        for (int b = 0; b <= 255; b++) {
            DollsAhead x = new DollsAhead();
            Checks.typeAll(x, text, before);
            due("type", x.type(text, b), before.length() + 1);
            int want = those.indexOf((char) b) >= 0 ? fault : before.length();
            due("fault of " + before + " and " + b, x.fault(text), want);
            int things = want == NONE ? (before.length() + 2) / (3 + text) : 0;
            due("how many are " + before + " and " + b, x.count(text), things);
        }
    }

    private static void bytesOfDoors() {
        goOn(0, "", FIGURES, 1);
        goOn(0, "01", ";", 3);
        goOn(0, "01;", FIGURES, 4);
        for (char one : FIGURES.toCharArray()) {
            goOn(0, "" + one, FIGURES.replace("" + one, ""), NONE);
            goOn(0, "75;" + one, FIGURES.replace("" + one, ""), NONE);
        }
        String eleven = "01;12;23;34;45;56;67;70;04;15;26";
        goOn(0, eleven, ";", 33);
        goOn(0, eleven + ";", FIGURES, 34);
        goOn(0, eleven + ";7", "0123456", NONE);
    }

    private static void bytesOfPeople() {
        goOn(1, "", "gch", 1);
        goOn(1, "g07", ";", 4);
        goOn(1, "h70;", "gch", 5);
        for (char sort : "gch".toCharArray()) {
            goOn(1, "" + sort, FIGURES, 2);
            goOn(1, sort + "7", FIGURES, NONE);
            goOn(1, "c00;" + sort, FIGURES, 6);
            goOn(1, "c00;" + sort + "0", FIGURES, NONE);
        }
        String seven = "g05;c16;h27;g30;c41;h52;g63";
        goOn(1, seven, ";", 28);
        goOn(1, seven + ";", "gch", 29);
        goOn(1, seven + ";h", FIGURES, 30);
        goOn(1, seven + ";h7", FIGURES, NONE);
    }

    private static void endsOfTexts() {
        DollsAhead x = new DollsAhead();
        for (int text = 0; text <= 1; text++) {
            due("an empty one is well", x.fault(text), NONE);
            String whole = text == 0 ? "01;23;45" : "g01;c23;h45";
            int part = 3 + text;
            for (int n = 1; n <= whole.length(); n++) {
                x.type(text, whole.charAt(n - 1));
                boolean ended = n % part == part - 1;
                due("fault of " + whole.substring(0, n), x.fault(text), ended ? NONE : n);
                due("how many are in " + whole.substring(0, n), x.count(text), ended ? (n + 1) / part : 0);
            }
            for (int n = whole.length() - 1; n >= 0; n--) {
                due("undo", x.undo(text), n);
                boolean ended = n == 0 || n % part == part - 1;
                due("fault behind undo of " + whole.substring(0, n), x.fault(text), ended ? NONE : n);
            }
            due("how many are in an empty one", x.count(text), 0);
        }
    }

    private static void fullTexts() {
        DollsAhead x = Checks.fullTexts();
        due("bytes of full doors", x.count(2), 35);
        due("bytes of full people", x.count(3), 31);
        due("full doors are well", x.fault(0), NONE);
        due("full people are well", x.fault(1), NONE);
        due("twelve doors", x.count(0), 12);
        due("eight people", x.count(1), 8);
        due("the last door", x.door(11, 0), 3);
        due("the last door", x.door(11, 1), 7);
        due("behind the last door", x.door(12, 0), BAD);
        due("the last person", x.person(7, 0), 1);
        due("the last person", x.person(7, 1), 7);
        due("the last person", x.person(7, 2), 4);
        due("behind the last person", x.person(8, 0), BAD);
        due("full doors", x.type(0, ';'), FULL);
        due("full people", x.type(1, ';'), FULL);
        due("one less", x.undo(0), 34);
        due("not ended at 34", x.fault(0), 34);
        due("room for one", x.type(0, '0'), 35);
        due("another last door", x.door(11, 1), 0);
        due("full again", x.type(0, '0'), FULL);
        due("all of it", x.wipe(0), 35);
        due("all of it", x.wipe(1), 31);
        due("empty", x.count(2), 0);
        due("room from one on", x.type(0, '0'), 1);
        due("room from one on", x.type(1, 'g'), 1);
    }

    private static void bytesOfAllSorts() {
        DollsAhead x = new DollsAhead();
        for (int i = 1; i <= 35; i++) {
            due("any byte", x.type(0, i * 7 % 256), i);
        }
        due("full of any bytes", x.type(0, 0), FULL);
        due("their fault", x.fault(0), 0);
        due("their doors", x.count(0), 0);
        due("they can be undone", x.undo(0), 34);
        due("they can be wiped", x.wipe(0), 34);
        // Above 127 a byte is no figure, whatever its lowest bits are.
        x.type(0, 128 + '0');
        due("not a figure", x.fault(0), 0);
    }

    private static void theFirstFaultStays() {
        DollsAhead x = Checks.house("01;8;00;x", "g0;gg;88");
        due("the first of doors", x.fault(0), 3);
        due("the first of people", x.fault(1), 2);
        while (x.count(2) > 3) {
            x.undo(0);
        }
        due("not ended", x.fault(0), 3);
        x.undo(0);
        due("well", x.fault(0), NONE);
    }

    private static void doorsWithAFault() {
        DollsAhead x = Checks.house("01;12;2", "g01;c02;h30");
        DollsAhead none = Checks.house("", "g01;c02;h30");
        due("no doors", x.count(0), 0);
        due("its bytes", x.count(2), 7);
        due("no door 0", x.door(0, 0), BAD);
        due("no way", x.far(0, 0, 1), NONE);
        due("one and the same", x.far(0, 1, 1), 0);
        for (int h = 0; h < 24; h++) {
            due("all stay", x.at(h, 0, 0), 0);
            due("all stay", x.at(h, 1, 0), 0);
            due("all stay", x.at(h, 2, 0), 3);
        }
        for (int p = 0; p < 3; p++) {
            due("sleep as with none", x.sleep(p, 1), none.sleep(p, 1));
            due("was as with none", x.was(p, 1), none.was(p, 1));
            due("ask as with none", x.ask(p), none.ask(p));
        }
        due("weeks as with none", x.weeks(3, 8, 1), none.weeks(3, 8, 1));
        x.type(0, '3');
        due("well, three doors", x.count(0), 3);
        due("a way", x.far(0, 0, 3), 3);
        due("they go", x.at(0, 0, 0), 1);
        x.undo(0);
        due("not ended again", x.far(0, 0, 1), NONE);
        due("they stay again", x.at(0, 0, 0), 0);
    }

    private static void peopleWithAFault() {
        DollsAhead x = Checks.house("01;12", "g01;c02;h1");
        x.event(0, 0, 2);
        x.seen(0, 0, 0);
        due("no people", x.count(1), 0);
        due("its bytes", x.count(3), 10);
        due("no person 0", x.person(0, 0), BAD);
        due("nowhere", x.at(0, 0, 0), BAD);
        due("nobody alone", x.alone(), 0);
        due("count of them", x.count(5), 0);
        due("hours of empty rooms", x.count(6), 192);
        for (int r = 0; r < 8; r++) {
            due("nobody in a room", x.room(12, r), 0);
            due("all rooms are empty", x.empty(r), ALL_HOURS);
        }
        due("none found", x.found(0), NONE);
        due("none found", x.found(1), NONE);
        due("none found", x.found(2), NONE);
        due("no crowd", x.crowd(2), 0);
        due("no crowd by a ham", x.nice(0, 1), 0);
        due("no lens", x.lens(0), NONE);
        due("none to spare", x.spare(NONE), 0);
        due("nothing comes out so", x.never(), 0);
        due("nobody in weeks", x.weeks(0, 8, 0), 0);
        due("nobody in weeks", x.weeks(0, 8, 1), 24);
        x.type(1, '1');
        due("well, three people", x.count(1), 3);
        due("one is there", x.at(0, 0, 0), 1);
        x.wipe(1);
        due("none again", x.count(1), 0);
        due("none again", x.alone(), 0);
    }

    private static void aTextAnswersForItselfAlone() {
        DollsAhead x = Checks.house("0", "g00");
        due("people are well", x.fault(1), NONE);
        due("people are there", x.count(1), 1);
        x.wipe(0);
        x.undo(1);
        due("doors are well", x.fault(0), NONE);
        due("people are not", x.fault(1), 2);
        due("only people have bytes", x.count(2), 0);
        due("only people have bytes", x.count(3), 2);
    }

    /** What was asked before must not be told again behind a change. */
    private static void changesAreFeltAtOnce() {
        DollsAhead x = Checks.house("01", "g02;g00");
        due("only a door", x.at(23, 0, 0), 0);
        due("a crowd of two", x.crowd(2), 2);
        due("with one more bed", x.sleep(0, 1), 24);
        due("alone by chance", x.chance(8, 0, 0, 0), 0);
        Checks.typeAll(x, 0, ";12");
        due("one more door", x.at(23, 0, 0), 2);
        due("far", x.far(0, 0, 2), 2);
        due("alone by chance", x.chance(8, 0, 0, 0), 1);
        x.undo(0);
        due("not ended", x.at(23, 0, 0), 0);
        due("alone by chance", x.chance(8, 0, 0, 0), 0);
        x.wipe(0);
        Checks.typeAll(x, 0, "02");
        due("another door", x.at(0, 0, 0), 2);
        due("far", x.far(0, 0, 2), 1);
        Checks.typeAll(x, 1, ";h22");
        due("one more person", x.room(0, 2), 5);
        due("alone by chance", x.chance(8, 0, 0, 0), 0);
        x.wipe(1);
        due("nobody", x.room(0, 2), 0);
        Checks.typeAll(x, 1, "c02");
        due("another one", x.at(1, 0, 0), 0);
        due("its hours ahead", x.at(0, 0, 1), 0);
        x.ahead(2);
        due("two hours ahead", x.at(0, 0, 1), 2);
        x.event(1, 1, 0);
        due("shut in", x.at(1, 0, 0), 2);
        x.back();
        due("not shut in", x.at(1, 0, 0), 0);
        x.sheet(0, 0, 3);
        x.put(0, 0, 0, 1);
        x.read(0);
        due("shut in from a sheet", x.at(0, 0, 0), 0);
    }
}
