/** Counts answers that are not as due, for the tests of the project. */
final class Checks {
    private int made = 0;
    private int wrong = 0;

    void due(String call, long got, long want) {
        made++;
        if (got != want) {
            wrong++;
            System.out.println(call + " answered " + got + ", due is " + want);
        }
    }

    /** Prints how it went and ends the program, with exit code 1 if an answer was wrong. */
    void end() {
        System.out.println(made + " answers looked at, " + wrong + " not as due");
        if (wrong != 0 || made == 0) {
            System.exit(1);
        }
    }

    static DollsAhead house(String doors, String people) {
        DollsAhead x = new DollsAhead();
        typeAll(x, 0, doors);
        typeAll(x, 1, people);
        return x;
    }

    /** Twelve doors and eight people: both texts are full. */
    static DollsAhead fullTexts() {
        return house("01;12;23;34;45;56;67;70;04;15;26;37", "g05;c16;h27;g30;c41;h52;g63;c74");
    }

    static void typeAll(DollsAhead x, int text, String bytes) {
        for (char b : bytes.toCharArray()) {
            x.type(text, b);
        }
    }
}
