/** Promises 20 (waits) and 21 (waited). */
public final class WaitsTest {
    private static final Check check = new Check();

    public static void main(String[] args) {
        waitsCountsFromLowToBelowHigh();
        waitedTellsTheGreatestNotAbove();
        whoLeavesHasNotWaited();
        sinceIsOfEachTurnAnew();
        longWaitsAreKept();
        manyWaitsAreKept();
        check.end();
    }

    private static void waitsCountsFromLowToBelowHigh() {
        LeaseHouse house = waited0And4And4And9();
        check.due("all", house.waits(Integer.MIN_VALUE, Integer.MAX_VALUE), 4);
        check.due("waits(0, 1)", house.waits(0, 1), 1);
        check.due("waits(0, 4)", house.waits(0, 4), 1);
        check.due("waits(0, 5)", house.waits(0, 5), 3);
        check.due("waits(4, 9)", house.waits(4, 9), 2);
        check.due("waits(4, 10)", house.waits(4, 10), 3);
        check.due("waits(5, 9)", house.waits(5, 9), 0);
        check.due("waits(9, 9)", house.waits(9, 9), 0);
        check.due("waits(9, 4)", house.waits(9, 4), 0);
        check.due("waits(10, most)", house.waits(10, Integer.MAX_VALUE), 0);
        check.due("waits(least, 0)", house.waits(Integer.MIN_VALUE, 0), 0);
        house.erase();
        check.due("waits needs no name", house.waits(0, 100), 4);
    }

    private static void waitedTellsTheGreatestNotAbove() {
        LeaseHouse house = waited0And4And4And9();
        check.due("waited(-1)", house.waited(-1), LeaseHouse.NONE);
        check.due("waited(least)", house.waited(Integer.MIN_VALUE), LeaseHouse.NONE);
        check.due("waited(0)", house.waited(0), 0);
        check.due("waited(3)", house.waited(3), 0);
        check.due("waited(4)", house.waited(4), 4);
        check.due("waited(8)", house.waited(8), 4);
        check.due("waited(9)", house.waited(9), 9);
        check.due("waited(most)", house.waited(Integer.MAX_VALUE), 9);
        house.erase();
        check.due("waited needs no name", house.waited(100), 9);
    }

    private static void whoLeavesHasNotWaited() {
        LeaseHouse house = Check.houseWith("a");
        house.want(0, 50);
        house.want(1, 5);
        house.want(2, 5);
        house.tick(3);
        house.leave(1);
        check.due("waits", house.waits(0, 100), 0);
        check.due("waited", house.waited(100), LeaseHouse.NONE);
        house.free(0);
        check.due("waits", house.waits(0, 100), 1);
        check.due("waited", house.waited(100), 3);
        house.free(2);
        house.want(3, 5);
        check.due("a lease that began was not waited for", house.waits(0, 100), 1);
    }

    private static void sinceIsOfEachTurnAnew() {
        LeaseHouse house = Check.houseWith("a");
        house.want(0, 50);
        house.want(1, 5);
        house.tick(10);
        house.leave(1);
        house.want(1, 5);
        house.tick(7);
        Check.write(house, "b");
        house.want(0, 50);
        house.want(1, 5);
        house.tick(1);
        house.free(0);
        check.due("waited for b", house.waited(100), 1);
        Check.write(house, "a");
        house.free(0);
        check.due("waited for a, from its return on", house.waited(100), 8);
        check.due("waits", house.waits(0, 100), 2);
    }

    private static void longWaitsAreKept() {
        LeaseHouse house = Check.houseWith("a");
        house.want(0, 100);
        house.want(1, 1);
        for (int k = 0; k < 200; k++) {
            house.tick(60);
            house.renew(0, 100);
        }
        house.free(0);
        check.due("waited(most)", house.waited(Integer.MAX_VALUE), 12000);
        check.due("waited(11999)", house.waited(11999), LeaseHouse.NONE);
        check.due("waits(12000, 12001)", house.waits(12000, 12001), 1);
    }

    /** Two clients take turns: as many waits as 512 calls can bring this way. */
    private static void manyWaitsAreKept() {
        LeaseHouse house = Check.houseWith("a");
        house.want(0, 100);
        for (int k = 0; k < 250; k++) {
            house.want((k + 1) % 2, 100);
            house.free(k % 2);
        }
        check.due("waits(0, 1)", house.waits(0, 1), 250);
        check.due("waited(0)", house.waited(0), 0);
    }

    private static LeaseHouse waited0And4And4And9() {
        LeaseHouse house = Check.houseWith("a");
        house.want(0, 50);
        house.want(1, 50);
        house.free(0);
        house.want(2, 50);
        house.want(3, 5);
        house.want(4, 50);
        house.tick(4);
        house.free(1);
        house.want(5, 50);
        house.free(2);
        house.tick(5);
        house.leave(5);
        return house;
    }
}
