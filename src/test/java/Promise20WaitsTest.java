/** Promise 20, its boundary cases: low not below high, nobody has waited, waits of 0 ticks. */
public final class Promise20WaitsTest {
    private static final int[] ANY = {
        Check.LEAST, Check.LEAST + 1, -2, -1, 0, 1, 3, 4, 5, 100, Check.MOST - 1, Check.MOST};
    private static final Check check = new Check();

    public static void main(String[] args) {
        whenNobodyHasWaitedItIs0();
        lowThatIsHighIs0();
        lowAboveHighIs0();
        lowItselfCounts();
        highItselfDoesNot();
        waitsOf0TicksCount();
        below0NobodyHasWaited();
        theWidestRangeHasAll();
        theGreatestLowHasNone();
        whoStillWaitsDoesNotCount();
        whoLeftDoesNotCount();
        whoGotItAtOnceDoesNotCount();
        waitsOfOneLengthAreCountedEach();
        aLongWaitCounts();
        check.end();
    }

    private static void whenNobodyHasWaitedItIs0() {
        for (int low : ANY) {
            for (int high : ANY) {
                LeaseHouse house = new LeaseHouse(0);
                check.due("waits(" + low + ", " + high + ")", house.waits(low, high), 0);
            }
        }
    }

    private static void lowThatIsHighIs0() {
        for (int any : ANY) {
            isDue(any, any, 0);
        }
    }

    private static void lowAboveHighIs0() {
        isDue(4, 0, 0);
        isDue(5, 4, 0);
        isDue(1, 0, 0);
        isDue(5, -1, 0);
        isDue(Check.MOST, Check.LEAST, 0);
        isDue(0, Check.LEAST, 0);
        isDue(Check.MOST, 0, 0);
    }

    private static void lowItselfCounts() {
        isDue(4, 5, 1);
        isDue(4, Check.MOST, 1);
        isDue(0, Check.MOST, 2);
    }

    private static void highItselfDoesNot() {
        isDue(0, 4, 1);
        isDue(0, 5, 2);
        isDue(1, 4, 0);
        isDue(Check.LEAST, 0, 0);
    }

    private static void waitsOf0TicksCount() {
        isDue(0, 1, 1);
        isDue(-1, 1, 1);
        isDue(Check.LEAST, 1, 1);
    }

    private static void below0NobodyHasWaited() {
        isDue(-1, 0, 0);
        isDue(-2, -1, 0);
        isDue(Check.LEAST, -1, 0);
    }

    private static void theWidestRangeHasAll() {
        isDue(Check.LEAST, Check.MOST, 2);
    }

    private static void theGreatestLowHasNone() {
        isDue(Check.MOST - 1, Check.MOST, 0);
        isDue(5, Check.MOST, 0);
    }

    private static void whoStillWaitsDoesNotCount() {
        LeaseHouse house = Check.houseWith("c");
        house.want(1, 50);
        house.want(2, 50);
        house.tick(9);
        check.due("waits(0, 100)", house.waits(0, 100), 0);
        house.tick(41);
        check.due("waits(50, 51) when it was STARTED", house.waits(50, 51), 1);
    }

    private static void whoLeftDoesNotCount() {
        LeaseHouse house = Check.houseWith("c");
        house.want(1, 50);
        house.want(2, 50);
        house.tick(9);
        house.leave(2);
        house.free(1);
        check.due("waits(0, 100)", house.waits(0, 100), 0);
    }

    private static void whoGotItAtOnceDoesNotCount() {
        LeaseHouse house = Check.houseWith("c");
        house.want(1, 1);
        house.free(1);
        house.want(2, 1);
        house.tick(1);
        check.due("waits(0, 1)", house.waits(0, 1), 0);
    }

    private static void waitsOfOneLengthAreCountedEach() {
        LeaseHouse house = BusyHouse.make(0, "a");
        for (int holder = 0; holder < 5; holder++) {
            check.due("waits(3, 4)", house.waits(3, 4), holder);
            house.free(holder);
        }
        check.due("waits(3, 4)", house.waits(3, 4), 5);
        Check.write(house, "b");
        house.free(1);
        check.due("waits(3, 4), another name's too", house.waits(3, 4), 6);
    }

    private static void aLongWaitCounts() {
        LeaseHouse house = Check.houseWith("c");
        house.want(1, 100);
        house.want(2, 1);
        for (int k = 0; k < 240; k++) {
            house.tick(60);
            house.renew(1, 100);
        }
        house.free(1);
        check.due("waits(14400, 14401)", house.waits(14400, 14401), 1);
        check.due("waits(0, 14400)", house.waits(0, 14400), 0);
    }

    /** In the busy house somebody has waited 0 ticks, and somebody 4. */
    private static void isDue(int low, int high, int due) {
        check.nothingIsDone("waits(" + low + ", " + high + ")", BusyHouse.with("a"),
                house -> house.waits(low, high), due);
        check.nothingIsDone("waits(" + low + ", " + high + ") without a name", BusyHouse.with(""),
                house -> house.waits(low, high), due);
    }
}
