import java.util.function.Supplier;
import java.util.function.ToLongFunction;

/** Tells every answer that is not the one that is due, and ends the test with 1 if there was one. */
final class Check {
    static final int LEAST = Integer.MIN_VALUE, MOST = Integer.MAX_VALUE;
    /** Numbers that are no clients; some would be clients if they were cut to fewer bits. */
    static final int[] NO_CLIENTS = {-1, 16, -2, -3, 17, 31, 32, 256, 65536, LEAST, LEAST + 1, MOST};
    static final int[] NO_LEASE_TIMES = {0, 101, -1, 256 + 1, 65536 + 1, LEAST, LEAST + 1, MOST};

    private int answers = 0;
    private int wrong = 0;

    void due(String call, long got, long want) {
        answers++;
        if (got != want) {
            wrong++;
            System.out.println(call + " answered " + got + ", due is " + want);
        }
    }

    void due(String call, boolean got, boolean want) {
        due(call, got ? 1 : 0, want ? 1 : 0);
    }

    void due(String what, String got, String want) {
        answers++;
        if (!got.equals(want)) {
            wrong++;
            System.out.println(what + " is " + got + ", due is " + want);
        }
    }

    void tapeIs(LeaseHouse house, String name) {
        for (int k = 0; k < name.length(); k++) {
            due("letter(" + k + ") of " + name, house.letter(k), name.charAt(k));
        }
        due("letter(" + name.length() + ") behind " + name, house.letter(name.length()), LeaseHouse.NONE);
    }

    /** The answer is the due one, and the house tells afterwards what it would have told without the call. */
    void nothingIsDone(String call, Supplier<LeaseHouse> made, ToLongFunction<LeaseHouse> called, long want) {
        due(call, called.applyAsLong(made.get()), want);
        same(call, () -> {
            LeaseHouse house = made.get();
            called.applyAsLong(house);
            return house;
        }, made);
    }

    /** Houses made in two ways tell the same. */
    void same(String what, Supplier<LeaseHouse> one, Supplier<LeaseHouse> other) {
        answers++;
        String got = Told.all(one);
        String want = Told.all(other);
        if (!got.equals(want)) {
            wrong++;
            System.out.println(what + ": the house tells" + got + "\n due is" + want);
        }
    }

    void end() {
        System.out.println(answers + " answers, " + wrong + " of them wrong");
        if (wrong != 0) {
            System.exit(1);
        }
    }

    /** Writes a name on the tape in the place of what it had. */
    static void write(LeaseHouse house, String name) {
        house.erase();
        for (int k = 0; k < name.length(); k++) {
            house.sign(name.charAt(k));
        }
    }

    static LeaseHouse houseWith(String name) {
        LeaseHouse house = new LeaseHouse(0);
        write(house, name);
        return house;
    }
}
