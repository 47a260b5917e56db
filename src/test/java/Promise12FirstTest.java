/** Promise 12, its boundary cases: no lease at all, leases that end at one time, no name before. */
public final class Promise12FirstTest {
    private static final Check check = new Check();

    public static void main(String[] args) {
        noLeaseIsNoneAndTheTapeStays();
        leasesThatHaveEndedAreNone();
        namesWithoutLeaseAreNotLookedAt();
        noNameIsNeeded();
        aFullTapeIsWrittenOver();
        theLeastUntilGoesBeforeNames();
        oneUntilGoesByNames();
        oneUntilGoesByLengthBeforeLetters();
        aLeaseThatWasStartedCounts();
        aLeaseThatWasRenewedCounts();
        client0IsTold();
        onlyTheTapeIsChanged();
        check.end();
    }

    private static void noLeaseIsNoneAndTheTapeStays() {
        for (String tape : new String[] {"", "a", "abc", "zzzzzz"}) {
            check.nothingIsDone("first() with " + tape, () -> Check.houseWith(tape), LeaseHouse::first,
                    LeaseHouse.NONE);
        }
    }

    private static void leasesThatHaveEndedAreNone() {
        LeaseHouse house = Check.houseWith("c");
        house.want(4, 1);
        house.tick(1);
        Check.write(house, "d");
        house.want(4, 1);
        house.free(4);
        Check.write(house, "abc");
        check.due("first()", house.first(), LeaseHouse.NONE);
        check.tapeIs(house, "abc");
    }

    private static void namesWithoutLeaseAreNotLookedAt() {
        LeaseHouse house = Check.houseWith("a");
        house.watch(0);
        house.job(0, 0);
        house.ask();
        Check.write(house, "b");
        house.want(3, 1);
        house.free(3);
        Check.write(house, "c");
        house.want(4, 100);
        Check.write(house, "a");
        check.due("first()", house.first(), 4);
        check.tapeIs(house, "c");
    }

    private static void noNameIsNeeded() {
        LeaseHouse house = BusyHouse.make(0, "");
        check.due("first() without a name", house.first(), 1);
        check.tapeIs(house, "b");
    }

    private static void aFullTapeIsWrittenOver() {
        LeaseHouse house = BusyHouse.make(0, "zzzzzz");
        check.due("first()", house.first(), 1);
        check.tapeIs(house, "b");
        check.due("erase()", house.erase(), 1);
    }

    private static void theLeastUntilGoesBeforeNames() {
        LeaseHouse house = lend(new LeaseHouse(0), "a", 1, 10);
        lend(house, "zzzzzz", 2, 9);
        check.due("first()", house.first(), 2);
        check.tapeIs(house, "zzzzzz");
        house.tick(9);
        check.due("first() later", house.first(), 1);
        check.tapeIs(house, "a");
    }

    private static void oneUntilGoesByNames() {
        LeaseHouse house = lend(new LeaseHouse(0), "bb", 1, 10);
        lend(house, "ba", 2, 10);
        lend(house, "bc", 3, 10);
        check.due("first()", house.first(), 2);
        check.tapeIs(house, "ba");
        lend(house, "az", 4, 10);
        check.due("first()", house.first(), 4);
        check.tapeIs(house, "az");
    }

    private static void oneUntilGoesByLengthBeforeLetters() {
        LeaseHouse house = lend(new LeaseHouse(0), "aaaaaa", 1, 10);
        lend(house, "zzzzz", 2, 10);
        check.due("first()", house.first(), 2);
        lend(house, "aaaa", 3, 10);
        check.due("first()", house.first(), 3);
        lend(house, "z", 4, 10);
        check.due("first()", house.first(), 4);
        lend(house, "aa", 5, 10);
        check.due("first()", house.first(), 4);
        check.tapeIs(house, "z");
    }

    private static void aLeaseThatWasStartedCounts() {
        LeaseHouse house = lend(new LeaseHouse(0), "a", 1, 10);
        house.want(2, 100);
        lend(house, "b", 3, 20);
        house.tick(10);
        check.due("first()", house.first(), 3);
        house.tick(10);
        check.due("first()", house.first(), 2);
        check.tapeIs(house, "a");
    }

    private static void aLeaseThatWasRenewedCounts() {
        LeaseHouse house = lend(new LeaseHouse(0), "a", 1, 10);
        lend(house, "b", 2, 20);
        house.renew(2, 9);
        check.due("first()", house.first(), 2);
        house.renew(2, 10);
        check.due("first() at one time", house.first(), 1);
    }

    private static void client0IsTold() {
        LeaseHouse house = lend(new LeaseHouse(0), "c", 0, 1);
        check.due("first()", house.first(), 0);
    }

    private static void onlyTheTapeIsChanged() {
        check.same("first()", () -> {
            LeaseHouse house = BusyHouse.make(0, "a");
            house.first();
            return house;
        }, BusyHouse.with("b"));
    }

    private static LeaseHouse lend(LeaseHouse house, String name, int client, int ticks) {
        Check.write(house, name);
        house.want(client, ticks);
        return house;
    }
}
