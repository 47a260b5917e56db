/** Tells every answer that is not the one that is due, and ends the test with 1 if there was one. */
final class Check {
    private int answers = 0;
    private int wrong = 0;

    void due(String call, long got, long want) {
        answers++;
        if (got != want) {
            wrong++;
            System.out.println(call + " answered " + got + ", due is " + want);
        }
    }

    void due(String call, boolean got, boolean want) {
        due(call, got ? 1 : 0, want ? 1 : 0);
    }

    void tapeIs(LeaseHouse house, String name) {
        for (int k = 0; k < name.length(); k++) {
            due("letter(" + k + ") of " + name, house.letter(k), name.charAt(k));
        }
        due("letter(" + name.length() + ") behind " + name, house.letter(name.length()), LeaseHouse.NONE);
    }

    void end() {
        System.out.println(answers + " answers, " + wrong + " of them wrong");
        if (wrong != 0) {
            System.exit(1);
        }
    }

    /** Writes a name on the tape in the place of what it had. */
    static void write(LeaseHouse house, String name) {
        house.erase();
        for (int k = 0; k < name.length(); k++) {
            house.sign(name.charAt(k));
        }
    }

    static LeaseHouse houseWith(String name) {
        LeaseHouse house = new LeaseHouse(0);
        write(house, name);
        return house;
    }
}
