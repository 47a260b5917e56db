/**
 * Promise 14, its boundary cases: no job, a due above NOW behind which one is due, a due that is
 * NOW, jobs with one rank, with one rank and one due, the greatest and the least numbers.
 */
public final class Promise14WorkTest {
    private static final long NO_WORK = 1099511627776L;
    private static final Check check = new Check();

    public static void main(String[] args) {
        withNoJobThereIsNoWork();
        whenAllJobsWentThereIsNoWork();
        aDueAboveNowIsNoWork();
        aDueThatIsNowIsWork();
        noOtherOneIsLookedAt();
        noOtherOneOfTheSameRankIsLookedAt();
        ofOneRankTheLeastDueIsFirst();
        ofOneRankAndOneDueTheFirstThatCameIsFirst();
        theFirstThatCameIsFirstAfterOthersWent();
        theLeastRankIsFirst();
        theGreatestAndTheLeastRankAreTold();
        theGreatestDueIsNeverReached();
        theLeastDueIsReached();
        greatestAndLeastNumbersKeepTheirOrder();
        ranksBelow0AreTold();
        noNameIsNeeded();
        aFullTapeIsWrittenOver();
        check.end();
    }

    private static void withNoJobThereIsNoWork() {
        for (String tape : new String[] {"", "a", "zzzzzz"}) {
            check.nothingIsDone("work() with " + tape, () -> Check.houseWith(tape), LeaseHouse::work, NO_WORK);
        }
    }

    private static void whenAllJobsWentThereIsNoWork() {
        LeaseHouse house = Check.houseWith("c");
        house.job(1, 0);
        check.due("work()", house.work(), 1);
        check.due("work() again", house.work(), NO_WORK);
        house.job(1, 0);
        house.cancel();
        check.due("work() when all were cancelled", house.work(), NO_WORK);
        check.due("jobs", house.count(3), 0);
    }

    private static void aDueAboveNowIsNoWork() {
        check.nothingIsDone("work() a tick before", () -> {
            LeaseHouse house = Check.houseWith("c");
            house.job(1, 1);
            Check.write(house, "zz");
            return house;
        }, LeaseHouse::work, NO_WORK);
    }

    private static void aDueThatIsNowIsWork() {
        LeaseHouse house = Check.houseWith("c");
        house.job(1, 0);
        check.due("work() of due 0 at 0", house.work(), 1);
        house.job(2, 60);
        house.tick(59);
        check.due("work() a tick before", house.work(), NO_WORK);
        house.tick(1);
        check.due("work() at its due", house.work(), 2);
    }

    private static void noOtherOneIsLookedAt() {
        check.nothingIsDone("work()", () -> {
            LeaseHouse house = Check.houseWith("late");
            house.job(1, 9);
            Check.write(house, "early");
            house.job(2, 0);
            house.tick(8);
            return house;
        }, LeaseHouse::work, NO_WORK);
    }

    private static void noOtherOneOfTheSameRankIsLookedAt() {
        LeaseHouse house = Check.houseWith("later");
        house.job(1, 9);
        Check.write(house, "late");
        house.job(1, 8);
        Check.write(house, "early");
        house.job(2, Check.LEAST);
        check.due("work() with the least due of the rank above now", house.work(), NO_WORK);
        house.tick(8);
        check.due("work()", house.work(), 1);
        check.tapeIs(house, "late");
        check.due("work()", house.work(), NO_WORK);
        check.tapeIs(house, "late");
    }

    private static void ofOneRankTheLeastDueIsFirst() {
        LeaseHouse house = giveJobs(new int[][] {{4, 3}, {4, -1}, {4, 2}, {4, 0}});
        house.tick(3);
        workTells(house, new int[] {4, 4, 4, 4}, "b", "d", "c", "a");
    }

    private static void ofOneRankAndOneDueTheFirstThatCameIsFirst() {
        LeaseHouse house = giveJobs(new int[][] {{4, 0}, {4, 0}, {4, 0}, {4, 0}, {4, 0}});
        workTells(house, new int[] {4, 4, 4, 4, 4}, "a", "b", "c", "d", "e");
        LeaseHouse other = new LeaseHouse(0);
        for (String name : new String[] {"zz", "b", "a", "aa"}) {
            Check.write(other, name);
            other.job(4, 0);
        }
        workTells(other, new int[] {4, 4, 4, 4}, "zz", "b", "a", "aa");
    }

    private static void theFirstThatCameIsFirstAfterOthersWent() {
        LeaseHouse house = giveJobs(new int[][] {{4, 0}, {4, 0}, {4, 0}});
        check.due("work()", house.work(), 4);
        Check.write(house, "f");
        house.job(4, 0);
        Check.write(house, "b");
        house.cancel();
        Check.write(house, "g");
        house.job(4, 0);
        workTells(house, new int[] {4, 4, 4}, "c", "f", "g");
    }

    private static void theLeastRankIsFirst() {
        LeaseHouse house = giveJobs(new int[][] {{1, -9}, {0, 0}, {-1, 0}, {2, -10}});
        workTells(house, new int[] {-1, 0, 1, 2}, "c", "b", "a", "d");
    }

    private static void theGreatestAndTheLeastRankAreTold() {
        LeaseHouse house = giveJobs(new int[][] {{Check.MOST, 0}, {Check.LEAST, 0}});
        check.due("work()", house.work(), -2147483648L);
        check.tapeIs(house, "b");
        check.due("work()", house.work(), 2147483647L);
        check.tapeIs(house, "a");
    }

    private static void theGreatestDueIsNeverReached() {
        LeaseHouse house = giveJobs(new int[][] {{0, Check.MOST}, {1, 0}});
        for (int k = 0; k < 100; k++) {
            house.tick(60);
        }
        check.due("work()", house.work(), NO_WORK);
        check.due("jobs", house.count(3), 2);
    }

    private static void theLeastDueIsReached() {
        LeaseHouse house = giveJobs(new int[][] {{0, Check.LEAST}, {1, Check.LEAST}});
        check.due("work() at 0", house.work(), 0);
        house.tick(60);
        check.due("work() at 60", house.work(), 1);
    }

    private static void greatestAndLeastNumbersKeepTheirOrder() {
        LeaseHouse house = giveJobs(new int[][] {
            {Check.MOST, Check.LEAST}, {Check.LEAST, 0}, {Check.LEAST, Check.LEAST}, {0, Check.LEAST},
            {Check.MOST, Check.MOST}, {1, -1}});
        workTells(house, new int[] {Check.LEAST, Check.LEAST, 0, 1, Check.MOST}, "c", "b", "d", "f", "a");
        LeaseHouse last = giveJobs(new int[][] {{5, Check.MOST}, {5, Check.LEAST}});
        check.due("work() of the least due", last.work(), 5);
        check.tapeIs(last, "b");
        check.due("work() of the greatest due", last.work(), NO_WORK);
    }

    private static void ranksBelow0AreTold() {
        LeaseHouse house = giveJobs(new int[][] {{-1, 0}, {-2, 0}, {-3, 0}});
        workTells(house, new int[] {-3, -2, -1}, "c", "b", "a");
    }

    private static void noNameIsNeeded() {
        LeaseHouse house = BusyHouse.make(0, "");
        check.due("work() without a name", house.work(), -1);
        check.tapeIs(house, "b");
    }

    private static void aFullTapeIsWrittenOver() {
        LeaseHouse house = BusyHouse.make(0, "zzzzzz");
        check.due("work()", house.work(), -1);
        check.tapeIs(house, "b");
        check.due("erase()", house.erase(), 1);
    }

    /** A job for each pair of rank and due, with the names "a", "b", "c" and so on. */
    private static LeaseHouse giveJobs(int[][] jobs) {
        LeaseHouse house = new LeaseHouse(0);
        for (int k = 0; k < jobs.length; k++) {
            house.erase();
            house.sign('a' + k);
            house.job(jobs[k][0], jobs[k][1]);
        }
        return house;
    }

    private static void workTells(LeaseHouse house, int[] ranks, String... names) {
        for (int k = 0; k < ranks.length; k++) {
            check.due("work() of " + names[k], house.work(), ranks[k]);
            check.tapeIs(house, names[k]);
        }
        check.due("work() after that", house.work(), NO_WORK);
    }
}
