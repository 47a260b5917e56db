import java.util.function.Supplier;

/**
 * A house at time 7 with something of all that it can keep, so that a call that should do nothing
 * has much to spoil:
 * "a" is held by 0 until 54, 1 to 5 wait for it, 7 watches it;
 * "b" is held by 1 until 44, 2 waits for it, and 3 watches it;
 * "ab" was lent and is free, 7 and 3 watch it;
 * "zzzzzz" is held by 15 until 104, nobody waits, 15 watches it;
 * "z" was never named. Five jobs, the fourth of them never due. THE CACHE has four names.
 */
final class BusyHouse {
    static final int NOW = 7;
    static final String LENT_WITH_FULL_ROW = "a", LENT_WITH_ROW = "b", FREE_AGAIN = "ab", LENT = "zzzzzz",
            NEVER_NAMED = "z";
    static final String[] NAMES = {LENT_WITH_FULL_ROW, LENT_WITH_ROW, FREE_AGAIN, LENT, NEVER_NAMED};

    private BusyHouse() {
    }

    /** Makes such houses, each with this on the tape. */
    static Supplier<LeaseHouse> with(String tape) {
        return () -> make(0, tape);
    }

    static LeaseHouse make(int sort, String tape) {
        LeaseHouse house = new LeaseHouse(sort);
        lendAndFree(house);
        lendToOne(house);
        lendWithFullRow(house);
        lendWithRow(house);
        giveJobs(house);
        Check.write(house, tape);
        return house;
    }

    private static void lendAndFree(LeaseHouse house) {
        Check.write(house, FREE_AGAIN);
        house.watch(7);
        house.watch(3);
        house.want(0, 5);
        house.want(1, 4);
        house.want(2, 6);
        house.free(0);
        house.tick(4);
        house.free(2);
        house.ask();
    }

    private static void lendToOne(LeaseHouse house) {
        Check.write(house, LENT);
        house.ask();
        house.watch(15);
        house.want(15, 100);
    }

    private static void lendWithFullRow(LeaseHouse house) {
        Check.write(house, LENT_WITH_FULL_ROW);
        house.watch(7);
        house.want(0, 20);
        for (int client = 1; client <= 5; client++) {
            house.want(client, 10 + client);
        }
        for (int k = 0; k < 4; k++) {
            house.renew(0, 50);
        }
        house.ask();
    }

    private static void lendWithRow(LeaseHouse house) {
        Check.write(house, LENT_WITH_ROW);
        house.want(1, 40);
        house.watch(3);
        house.want(2, 1);
        house.tick(3);
        house.ask();
    }

    private static void giveJobs(LeaseHouse house) {
        Check.write(house, LENT_WITH_ROW);
        house.job(-1, 0);
        house.job(3, Integer.MAX_VALUE);
        Check.write(house, LENT_WITH_FULL_ROW);
        house.job(-1, 0);
        house.job(5, 0);
        Check.write(house, FREE_AGAIN);
        house.job(0, NOW);
    }
}
