/** Promise 10, its boundary cases: no name, no lease, the first and the last tick of one. */
public final class Promise10LeftTest {
    private static final Check check = new Check();

    public static void main(String[] args) {
        withoutANameItIsRefused();
        aNameNeverLentHasNone();
        aNameFreeAgainHasNone();
        aLeaseThatTimeEndedHasNone();
        aLeaseHasAllItsTicksAtFirst();
        theLastTickIs1();
        aLeaseStartedHasItsOwnTicks();
        timesBeforeTheLeaseDoNotCount();
        check.end();
    }

    private static void withoutANameItIsRefused() {
        check.nothingIsDone("left() without a name", BusyHouse.with(""), LeaseHouse::left, LeaseHouse.REFUSED);
    }

    private static void aNameNeverLentHasNone() {
        check.nothingIsDone("left()", BusyHouse.with("z"), LeaseHouse::left, LeaseHouse.NONE);
    }

    private static void aNameFreeAgainHasNone() {
        check.nothingIsDone("left()", BusyHouse.with("ab"), LeaseHouse::left, LeaseHouse.NONE);
    }

    private static void aLeaseThatTimeEndedHasNone() {
        LeaseHouse house = Check.houseWith("c");
        house.want(4, 1);
        house.tick(1);
        check.due("left() at its end", house.left(), LeaseHouse.NONE);
        house.tick(1);
        check.due("left() behind its end", house.left(), LeaseHouse.NONE);
    }

    private static void aLeaseHasAllItsTicksAtFirst() {
        for (int ticks = 1; ticks <= 100; ticks++) {
            LeaseHouse house = Check.houseWith("c");
            house.want(4, ticks);
            check.due("left()", house.left(), ticks);
        }
    }

    private static void theLastTickIs1() {
        LeaseHouse house = Check.houseWith("c");
        house.want(4, 60);
        for (int left = 60; left >= 1; left--) {
            check.due("left()", house.left(), left);
            house.tick(1);
        }
        check.due("left()", house.left(), LeaseHouse.NONE);
    }

    private static void aLeaseStartedHasItsOwnTicks() {
        LeaseHouse house = BusyHouse.make(0, "b");
        check.nothingIsDone("left()", BusyHouse.with("b"), LeaseHouse::left, 37);
        house.free(1);
        check.due("left() of the one STARTED", house.left(), 1);
    }

    private static void timesBeforeTheLeaseDoNotCount() {
        LeaseHouse house = Check.houseWith("c");
        for (int k = 0; k < 100; k++) {
            house.tick(60);
        }
        house.want(4, 100);
        check.due("left()", house.left(), 100);
    }
}
