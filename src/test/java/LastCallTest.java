/** "What it is": an object is used for 512 calls, and the last of them are answered as the first. */
public final class LastCallTest {
    private static final int MOST_CALLS = 512;
    private static final Check check = new Check();

    public static void main(String[] args) {
        eachCallIsAnsweredLateToo();
        theLatestTimeIsTold();
        theLatestLeaseHasItsTime();
        theMostChangesAreTold();
        theMostWaitsAreTold();
        theLongestWaitIsTold();
        theMostNamesAreTold();
        theMostJobsAreDone();
        check.end();
    }

    private static void eachCallIsAnsweredLateToo() {
        for (String tape : BusyHouse.NAMES) {
            Calls.ALL.forEach(calls -> calls.forEach(call -> {
                LeaseHouse late = BusyHouse.make(0, tape);
                // The busy house is made with fewer than 100 calls, so that 512 are not passed.
                for (int k = 0; k < 400; k++) {
                    late.count(0);
                }
                check.due(call.text() + " late", call.done().applyAsLong(late),
                        call.done().applyAsLong(BusyHouse.make(0, tape)));
            }));
        }
    }

    private static void theLatestTimeIsTold() {
        LeaseHouse house = new LeaseHouse(0);
        for (int calls = 1; calls < MOST_CALLS; calls++) {
            house.tick(60);
        }
        check.due("count(0) as the last call", house.count(0), 60 * 511);
    }

    private static void theLatestLeaseHasItsTime() {
        LeaseHouse house = Check.houseWith("a");
        for (int calls = 2; calls < MOST_CALLS - 2; calls++) {
            house.tick(60);
        }
        check.due("want(3, 1)", house.want(3, 1), 0);
        check.due("renew(3, 100) as the last call", house.renew(3, 100), 60 * 508 + 100);
    }

    private static void theMostChangesAreTold() {
        LeaseHouse house = Check.houseWith("a");
        house.want(3, 100);
        for (int calls = 3; calls < MOST_CALLS - 1; calls++) {
            house.renew(3, 100);
        }
        check.due("ask() as the last call", house.ask(), 1000 * 509);
    }

    private static void theMostWaitsAreTold() {
        LeaseHouse house = Check.houseWith("a");
        house.want(0, 100);
        for (int calls = 3; calls < MOST_CALLS - 1; calls += 2) {
            house.want(calls / 2 % 2, 100);
            house.free(1 - calls / 2 % 2);
        }
        check.due("waits(0, 1) as the last call", house.waits(0, 1), 254);
    }

    private static void theLongestWaitIsTold() {
        LeaseHouse house = Check.houseWith("a");
        house.want(0, 100);
        house.want(1, 1);
        for (int calls = 4; calls < MOST_CALLS - 2; calls += 2) {
            house.tick(60);
            house.renew(0, 100);
        }
        check.due("free(0)", house.free(0), 1);
        check.due("waited(most) as the last call", house.waited(Check.MOST), 60 * 253);
    }

    private static void theMostNamesAreTold() {
        LeaseHouse house = new LeaseHouse(0);
        int names = 0;
        for (int calls = 0; calls + 13 < MOST_CALLS; calls += 13) {
            int round = calls / 13;
            for (int k = 0; k < 6; k++) {
                house.sign(k == 0 ? 'a' + round % 26 : 'a' + round / 26 * 7 + k);
                names += house.watch(5);
            }
            house.erase();
        }
        // From the 27th round on the names of one letter are not watched any more.
        check.due("names watched", house.count(5), 39 * 6 - 2 * 13);
        check.due("watched by one at a time", names, 39 * 6 - 13);
    }

    private static void theMostJobsAreDone() {
        LeaseHouse house = Check.houseWith("a");
        int done = 0;
        for (int calls = 2; calls + 60 < MOST_CALLS; calls += 60) {
            for (int k = 0; k < 30; k++) {
                check.due("job " + k, house.job(-k, 0), k + 1);
            }
            for (int k = 0; k < 30; k++) {
                check.due("work() " + k, house.work(), k - 29);
                done++;
            }
        }
        check.due("jobs that were done", done, 240);
        check.due("work() when all are done", house.work(), 1L << 40);
    }
}
