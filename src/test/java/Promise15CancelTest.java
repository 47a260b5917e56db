/** Promise 15, its boundary cases: no name, no job with the name, all 30 jobs. */
public final class Promise15CancelTest {
    private static final Check check = new Check();

    public static void main(String[] args) {
        withoutANameItIsRefused();
        noJobAtAllIs0();
        noJobWithTheNameIs0();
        aPrefixIsAnotherName();
        all30Go();
        thoseNextToOneAnotherGo();
        theOthersStayInTheirOrder();
        aCancelledJobThatWasNotDueMakesRoomForTheNext();
        cancelledTwiceIs0();
        onlyTheJobsAreChanged();
        check.end();
    }

    private static void withoutANameItIsRefused() {
        check.nothingIsDone("cancel() without a name", BusyHouse.with(""), LeaseHouse::cancel, LeaseHouse.REFUSED);
    }

    private static void noJobAtAllIs0() {
        check.nothingIsDone("cancel()", () -> Check.houseWith("c"), LeaseHouse::cancel, 0);
    }

    private static void noJobWithTheNameIs0() {
        check.nothingIsDone("cancel()", BusyHouse.with("z"), LeaseHouse::cancel, 0);
        check.nothingIsDone("cancel()", BusyHouse.with("zzzzzz"), LeaseHouse::cancel, 0);
    }

    private static void aPrefixIsAnotherName() {
        for (String name : new String[] {"aa", "bb", "ba", "abc"}) {
            check.nothingIsDone("cancel() of " + name, BusyHouse.with(name), LeaseHouse::cancel, 0);
        }
    }

    private static void all30Go() {
        LeaseHouse house = Check.houseWith("c");
        for (int k = 0; k < 30; k++) {
            house.job(k % 4, k % 3);
        }
        check.due("cancel()", house.cancel(), 30);
        check.due("jobs", house.count(3), 0);
        check.due("work()", house.work(), 1L << 40);
        check.due("job", house.job(0, 0), 1);
    }

    private static void thoseNextToOneAnotherGo() {
        LeaseHouse house = giveJobs("a", "c", "c", "c", "b", "c", "c");
        Check.write(house, "c");
        check.due("cancel()", house.cancel(), 5);
        check.due("jobs", house.count(3), 2);
        check.due("work()", house.work(), 0);
        check.due("work()", house.work(), 4);
    }

    private static void theOthersStayInTheirOrder() {
        LeaseHouse house = giveJobs("d", "c", "a", "c", "b");
        Check.write(house, "c");
        check.due("cancel()", house.cancel(), 2);
        check.tapeIs(house, "c");
        for (String name : new String[] {"d", "a", "b"}) {
            house.work();
            check.tapeIs(house, name);
        }
    }

    private static void aCancelledJobThatWasNotDueMakesRoomForTheNext() {
        LeaseHouse house = BusyHouse.make(0, "b");
        check.due("cancel() of b, one never due", house.cancel(), 2);
        check.due("work()", house.work(), -1);
        check.due("work()", house.work(), 0);
        check.due("work()", house.work(), 5);
        check.tapeIs(house, "a");
    }

    private static void cancelledTwiceIs0() {
        LeaseHouse house = giveJobs("c");
        check.due("cancel()", house.cancel(), 1);
        check.due("cancel() again", house.cancel(), 0);
    }

    private static void onlyTheJobsAreChanged() {
        LeaseHouse house = BusyHouse.make(0, "a");
        check.due("cancel()", house.cancel(), 2);
        check.tapeIs(house, "a");
        int[] counts = {BusyHouse.NOW, 3, 6, 3, 4, 4, 5, 13};
        for (int what = 0; what < counts.length; what++) {
            check.due("count(" + what + ")", house.count(what), counts[what]);
        }
    }

    /** A job of each name, the ranks from 0 on, all of them due. */
    private static LeaseHouse giveJobs(String... names) {
        LeaseHouse house = new LeaseHouse(0);
        for (int k = 0; k < names.length; k++) {
            Check.write(house, names[k]);
            house.job(k, 0);
        }
        return house;
    }
}
