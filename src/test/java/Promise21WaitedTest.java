/** Promise 21, its boundary cases: nobody has waited, nobody so short, waits of 0 ticks. */
public final class Promise21WaitedTest {
    private static final Check check = new Check();

    public static void main(String[] args) {
        whenNobodyHasWaitedItIsNone();
        below0ItIsNone();
        aWaitOf0TicksIs0();
        belowTheLeastItIsNone();
        theNumberItselfIsNotAbove();
        betweenTwoItIsTheLesser();
        aboveAllItIsTheGreatest();
        theOrderOfTheWaitsIsOfNoMeaning();
        whoLeftHasNotWaited();
        whoStillWaitsHasNotWaited();
        check.end();
    }

    private static void whenNobodyHasWaitedItIsNone() {
        for (int ticks : new int[] {Check.LEAST, -3, -2, -1, 0, 1, 100, Check.MOST}) {
            check.nothingIsDone("waited(" + ticks + ")", () -> Check.houseWith("c"), house -> house.waited(ticks),
                    LeaseHouse.NONE);
        }
    }

    private static void below0ItIsNone() {
        for (int ticks : new int[] {-1, -2, -3, Check.LEAST, Check.LEAST + 1}) {
            isDue(ticks, LeaseHouse.NONE);
        }
    }

    private static void aWaitOf0TicksIs0() {
        isDue(0, 0);
        isDue(1, 0);
    }

    private static void belowTheLeastItIsNone() {
        LeaseHouse house = Check.houseWith("c");
        house.want(1, 7);
        house.want(2, 7);
        house.tick(7);
        check.due("waited(6)", house.waited(6), LeaseHouse.NONE);
        check.due("waited(0)", house.waited(0), LeaseHouse.NONE);
        check.due("waited(-1)", house.waited(-1), LeaseHouse.NONE);
        check.due("waited(7)", house.waited(7), 7);
    }

    private static void theNumberItselfIsNotAbove() {
        isDue(4, 4);
    }

    private static void betweenTwoItIsTheLesser() {
        isDue(3, 0);
        isDue(2, 0);
    }

    private static void aboveAllItIsTheGreatest() {
        isDue(5, 4);
        isDue(Check.MOST, 4);
    }

    private static void theOrderOfTheWaitsIsOfNoMeaning() {
        LeaseHouse house = Check.houseWith("c");
        int[] waits = {5, 9, 2, 7, 9};
        for (int k = 0; k < waits.length; k++) {
            house.want(0, 100);
            house.want(1, 100);
            house.tick(waits[k]);
            house.free(0);
            house.free(1);
        }
        int[] due = {LeaseHouse.NONE, LeaseHouse.NONE, 2, 2, 2, 5, 5, 7, 7, 9, 9};
        for (int ticks = 0; ticks < due.length; ticks++) {
            check.due("waited(" + ticks + ")", house.waited(ticks), due[ticks]);
        }
    }

    private static void whoLeftHasNotWaited() {
        LeaseHouse house = Check.houseWith("c");
        house.want(1, 50);
        house.want(2, 50);
        house.tick(9);
        house.leave(2);
        house.free(1);
        check.due("waited(most)", house.waited(Check.MOST), LeaseHouse.NONE);
    }

    private static void whoStillWaitsHasNotWaited() {
        LeaseHouse house = Check.houseWith("c");
        house.want(1, 50);
        house.want(2, 50);
        house.tick(49);
        check.due("waited(most)", house.waited(Check.MOST), LeaseHouse.NONE);
        house.tick(1);
        check.due("waited(most) when it was STARTED", house.waited(Check.MOST), 50);
    }

    /** In the busy house somebody has waited 0 ticks, and somebody 4. */
    private static void isDue(int ticks, int due) {
        check.nothingIsDone("waited(" + ticks + ")", BusyHouse.with("a"), house -> house.waited(ticks), due);
        check.nothingIsDone("waited(" + ticks + ") without a name", BusyHouse.with(""),
                house -> house.waited(ticks), due);
    }
}
