/** Promise 9, its boundary cases: no name, a name that nobody holds. */
public final class Promise09HolderTest {
    private static final Check check = new Check();

    public static void main(String[] args) {
        withoutANameItIsRefused();
        aNameNeverLentHasNone();
        aNameFreeAgainHasNone();
        aNameOnlyWatchedHasNone();
        aLeaseThatTimeEndedHasNone();
        client0IsAHolder();
        client15IsAHolder();
        aPrefixIsAnotherName();
        check.end();
    }

    private static void withoutANameItIsRefused() {
        check.nothingIsDone("holder() without a name", BusyHouse.with(""), LeaseHouse::holder, LeaseHouse.REFUSED);
    }

    private static void aNameNeverLentHasNone() {
        check.nothingIsDone("holder()", BusyHouse.with("z"), LeaseHouse::holder, LeaseHouse.NONE);
    }

    private static void aNameFreeAgainHasNone() {
        check.nothingIsDone("holder()", BusyHouse.with("ab"), LeaseHouse::holder, LeaseHouse.NONE);
    }

    private static void aNameOnlyWatchedHasNone() {
        LeaseHouse house = Check.houseWith("c");
        house.watch(0);
        house.job(0, 0);
        house.ask();
        check.due("holder()", house.holder(), LeaseHouse.NONE);
    }

    private static void aLeaseThatTimeEndedHasNone() {
        LeaseHouse house = Check.houseWith("c");
        house.want(4, 1);
        house.tick(1);
        check.due("holder()", house.holder(), LeaseHouse.NONE);
    }

    private static void client0IsAHolder() {
        check.nothingIsDone("holder()", BusyHouse.with("a"), LeaseHouse::holder, 0);
    }

    private static void client15IsAHolder() {
        check.nothingIsDone("holder()", BusyHouse.with("zzzzzz"), LeaseHouse::holder, 15);
    }

    private static void aPrefixIsAnotherName() {
        for (String name : new String[] {"zzzzz", "aa", "bb", "ba", "az"}) {
            check.nothingIsDone("holder() of " + name, BusyHouse.with(name), LeaseHouse::holder, LeaseHouse.NONE);
        }
    }
}
