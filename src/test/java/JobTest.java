/** Promises 13 (job), 14 (work) and 15 (cancel). */
public final class JobTest {
    private static final long NO_WORK = 1099511627776L;
    private static final Check check = new Check();

    public static void main(String[] args) {
        jobsGoByRankThenDueThenTurn();
        onlyTheFirstJobIsLookedAt();
        thirtyJobsAreAllThereIsRoomFor();
        ranksAndDuesMayBeAnyNumbers();
        cancelTakesAllOfAName();
        aNameIsNeeded();
        check.end();
    }

    private static void jobsGoByRankThenDueThenTurn() {
        LeaseHouse house = new LeaseHouse(0);
        house.tick(50);
        String[] names = {"f", "d", "b", "a", "g", "c", "e"};
        int[] ranks = {7, 2, 1, 1, 7, 1, 2};
        int[] dues = {0, 3, 8, 2, 0, 9, 3};
        for (int k = 0; k < names.length; k++) {
            Check.write(house, names[k]);
            check.due("job of " + names[k], house.job(ranks[k], dues[k]), k + 1);
        }
        String[] turns = {"a", "b", "c", "d", "e", "f", "g"};
        int[] turnRanks = {1, 1, 1, 2, 2, 7, 7};
        for (int k = 0; k < turns.length; k++) {
            check.due("work() " + k, house.work(), turnRanks[k]);
            check.tapeIs(house, turns[k]);
            check.due("jobs", house.count(3), turns.length - 1 - k);
        }
        check.due("work() with no job", house.work(), NO_WORK);
        check.tapeIs(house, "g");
    }

    private static void onlyTheFirstJobIsLookedAt() {
        LeaseHouse house = Check.houseWith("late");
        house.job(1, 10);
        Check.write(house, "early");
        house.job(2, 0);
        check.due("work() with the first job due later", house.work(), NO_WORK);
        check.due("jobs", house.count(3), 2);
        check.tapeIs(house, "early");
        house.tick(9);
        check.due("work() a tick before", house.work(), NO_WORK);
        house.tick(1);
        check.due("work() at its due", house.work(), 1);
        check.tapeIs(house, "late");
        check.due("work()", house.work(), 2);
        check.tapeIs(house, "early");
    }

    private static void thirtyJobsAreAllThereIsRoomFor() {
        LeaseHouse house = Check.houseWith("a");
        for (int k = 1; k <= 30; k++) {
            check.due("job " + k, house.job(-k, 0), k);
        }
        check.due("job 31", house.job(0, 0), LeaseHouse.FULL);
        check.due("jobs", house.count(3), 30);
        check.due("work()", house.work(), -30);
        check.due("a job again", house.job(5, 0), 30);
        check.due("and no more", house.job(5, 0), LeaseHouse.FULL);
        house.erase();
        check.due("a job without a name, with 30", house.job(5, 0), LeaseHouse.REFUSED);
        Check.write(house, "a");
        check.due("cancel() of 30", house.cancel(), 30);
        check.due("work() after that", house.work(), NO_WORK);
    }

    private static void ranksAndDuesMayBeAnyNumbers() {
        LeaseHouse house = Check.houseWith("a");
        house.job(Integer.MAX_VALUE, Integer.MIN_VALUE);
        house.job(-1, Integer.MIN_VALUE);
        house.job(Integer.MIN_VALUE, -5);
        house.job(Integer.MIN_VALUE, Integer.MIN_VALUE);
        house.job(0, Integer.MAX_VALUE);
        check.due("work()", house.work(), Integer.MIN_VALUE);
        check.due("work()", house.work(), Integer.MIN_VALUE);
        check.due("work()", house.work(), -1);
        check.due("work() with a due never reached", house.work(), NO_WORK);
        check.due("cancel()", house.cancel(), 2);
        house.job(Integer.MAX_VALUE, Integer.MIN_VALUE);
        check.due("work()", house.work(), Integer.MAX_VALUE);
    }

    private static void cancelTakesAllOfAName() {
        LeaseHouse house = new LeaseHouse(0);
        String[] names = {"a", "b", "a", "a", "c", "b", "a"};
        for (int k = 0; k < names.length; k++) {
            Check.write(house, names[k]);
            house.job(k, 0);
        }
        check.due("cancel() of a", house.cancel(), 4);
        check.due("cancel() of a again", house.cancel(), 0);
        check.due("jobs", house.count(3), 3);
        check.tapeIs(house, "a");
        Check.write(house, "aa");
        check.due("cancel() of a name without jobs", house.cancel(), 0);
        check.due("work()", house.work(), 1);
        check.tapeIs(house, "b");
        check.due("work()", house.work(), 4);
        check.due("work()", house.work(), 5);
        check.due("work()", house.work(), NO_WORK);
    }

    private static void aNameIsNeeded() {
        LeaseHouse house = Check.houseWith("a");
        house.job(1, 0);
        house.erase();
        check.due("job without a name", house.job(0, 0), LeaseHouse.REFUSED);
        check.due("cancel without a name", house.cancel(), LeaseHouse.REFUSED);
        check.due("jobs", house.count(3), 1);
        check.due("work() needs none", house.work(), 1);
        check.tapeIs(house, "a");
    }
}
