/** Promise 13, its boundary cases: no name, 30 jobs, any ranks and dues. */
public final class Promise13JobTest {
    private static final int[] ANY = {Check.LEAST, Check.LEAST + 1, -3, -2, -1, 0, 1, Check.MOST - 1, Check.MOST};
    private static final Check check = new Check();

    public static void main(String[] args) {
        withoutANameItIsRefused();
        withoutANameItIsRefusedWith30Too();
        theThirtiethIsTaken();
        with30ItIsFull();
        withRoomAgainItIsTaken();
        anyRankAndAnyDueIsTaken();
        oneNameMayHaveManyJobs();
        onlyTheJobsAreChanged();
        check.end();
    }

    private static void withoutANameItIsRefused() {
        for (int rank : ANY) {
            for (int due : ANY) {
                check.nothingIsDone("job(" + rank + ", " + due + ") without a name", BusyHouse.with(""),
                        house -> house.job(rank, due), LeaseHouse.REFUSED);
            }
        }
    }

    private static void withoutANameItIsRefusedWith30Too() {
        check.nothingIsDone("job(0, 0) without a name", () -> houseWith30("a", ""), house -> house.job(0, 0),
                LeaseHouse.REFUSED);
    }

    private static void theThirtiethIsTaken() {
        LeaseHouse house = Check.houseWith("c");
        for (int k = 1; k <= 30; k++) {
            check.due("job " + k, house.job(0, 0), k);
        }
        check.due("jobs", house.count(3), 30);
    }

    private static void with30ItIsFull() {
        for (int any : ANY) {
            check.nothingIsDone("job(" + any + ", 0), the 31st", () -> houseWith30("a", "a"),
                    house -> house.job(any, 0), LeaseHouse.FULL);
            check.nothingIsDone("job(0, " + any + "), the 31st, of another name", () -> houseWith30("a", "b"),
                    house -> house.job(0, any), LeaseHouse.FULL);
        }
    }

    private static void withRoomAgainItIsTaken() {
        LeaseHouse house = houseWith30("c", "c");
        house.work();
        check.due("job when one was done", house.job(9, 9), 30);
        check.due("job with 30 again", house.job(9, 9), LeaseHouse.FULL);
        house.cancel();
        check.due("job when all were cancelled", house.job(9, 9), 1);
    }

    private static void anyRankAndAnyDueIsTaken() {
        for (int rank : ANY) {
            LeaseHouse house = Check.houseWith("c");
            int jobs = 0;
            for (int due : ANY) {
                jobs++;
                check.due("job(" + rank + ", " + due + ")", house.job(rank, due), jobs);
            }
        }
    }

    private static void oneNameMayHaveManyJobs() {
        LeaseHouse house = Check.houseWith("c");
        check.due("job(1, 1)", house.job(1, 1), 1);
        check.due("job(1, 1) again", house.job(1, 1), 2);
        Check.write(house, "d");
        check.due("job(1, 1) of another name", house.job(1, 1), 3);
    }

    private static void onlyTheJobsAreChanged() {
        check.same("job and cancel", () -> {
            LeaseHouse house = BusyHouse.make(0, "z");
            house.job(Check.LEAST, Check.LEAST);
            house.job(Check.MOST, Check.MOST);
            house.cancel();
            return house;
        }, BusyHouse.with("z"));
    }

    private static LeaseHouse houseWith30(String name, String tape) {
        LeaseHouse house = Check.houseWith(name);
        for (int k = 0; k < 30; k++) {
            house.job(k % 7, 0);
        }
        Check.write(house, tape);
        return house;
    }
}
