/**
 * Promise 4, its boundary cases: no name, no such client, ticks below 1 and above 100, a row with 5
 * that wait, a client that holds or waits already.
 */
public final class Promise04WantTest {
    private static final Check check = new Check();

    public static void main(String[] args) {
        withoutANameItIsRefused();
        clientsThatThereAreNotAreRefused();
        clients0And15AreTaken();
        ticksBelow1AndAbove100AreRefused();
        wrongTicksAreRefusedBeforeAllElse();
        ticks1And100AreTaken();
        ticks1And100AreTakenInTheRow();
        aClientThatHoldsItGetsNone();
        aClientThatHoldsItGetsNoneWithAFullRow();
        aClientThatWaitsGetsNone();
        aClientThatWaitsGetsNoneWithAFullRow();
        theFifthStillFits();
        aRowWith5IsFull();
        aRowWithRoomAgainIsNotFull();
        aClientMayHoldAndWaitForOtherNames();
        aNameThatIsFreeAgainIsLent();
        whoHeldItMayWaitAgain();
        onlyALeaseThatBeganIsTold();
        check.end();
    }

    private static void withoutANameItIsRefused() {
        check.nothingIsDone("want without a name", BusyHouse.with(""), house -> house.want(9, 5), LeaseHouse.REFUSED);
        check.nothingIsDone("want(0, 1) in a new house", () -> new LeaseHouse(0), house -> house.want(0, 1),
                LeaseHouse.REFUSED);
    }

    private static void clientsThatThereAreNotAreRefused() {
        for (String name : BusyHouse.NAMES) {
            for (int client : Check.NO_CLIENTS) {
                check.nothingIsDone("want(" + client + ", 5) of " + name, BusyHouse.with(name),
                        house -> house.want(client, 5), LeaseHouse.REFUSED);
            }
        }
    }

    private static void clients0And15AreTaken() {
        LeaseHouse house = Check.houseWith("c");
        check.due("want(15, 5)", house.want(15, 5), 0);
        check.due("want(0, 5)", house.want(0, 5), 1);
        check.due("holder()", house.holder(), 15);
        check.due("waiting(0)", house.waiting(0), 0);
    }

    private static void ticksBelow1AndAbove100AreRefused() {
        for (String name : BusyHouse.NAMES) {
            for (int ticks : Check.NO_LEASE_TIMES) {
                check.nothingIsDone("want(9, " + ticks + ") of " + name, BusyHouse.with(name),
                        house -> house.want(9, ticks), LeaseHouse.REFUSED);
            }
        }
    }

    private static void wrongTicksAreRefusedBeforeAllElse() {
        for (int ticks : Check.NO_LEASE_TIMES) {
            check.nothingIsDone("want(0, " + ticks + ") by the holder", BusyHouse.with("a"),
                    house -> house.want(0, ticks), LeaseHouse.REFUSED);
            check.nothingIsDone("want(2, " + ticks + ") by one who waits", BusyHouse.with("a"),
                    house -> house.want(2, ticks), LeaseHouse.REFUSED);
            check.nothingIsDone("want(16, " + ticks + ")", BusyHouse.with("z"),
                    house -> house.want(16, ticks), LeaseHouse.REFUSED);
        }
    }

    private static void ticks1And100AreTaken() {
        for (int ticks : new int[] {1, 100}) {
            LeaseHouse house = Check.houseWith("c");
            check.due("want(9, " + ticks + ")", house.want(9, ticks), 0);
            check.due("left()", house.left(), ticks);
        }
    }

    private static void ticks1And100AreTakenInTheRow() {
        for (int ticks : new int[] {1, 100}) {
            LeaseHouse house = Check.houseWith("c");
            house.want(8, 50);
            check.due("want(9, " + ticks + ") behind another", house.want(9, ticks), 1);
            house.free(8);
            check.due("left()", house.left(), ticks);
        }
    }

    private static void aClientThatHoldsItGetsNone() {
        check.nothingIsDone("want(15, 1) by the holder", BusyHouse.with("zzzzzz"), house -> house.want(15, 1),
                LeaseHouse.NONE);
        check.nothingIsDone("want(1, 100) by the holder", BusyHouse.with("b"), house -> house.want(1, 100),
                LeaseHouse.NONE);
    }

    private static void aClientThatHoldsItGetsNoneWithAFullRow() {
        check.nothingIsDone("want(0, 5) by the holder", BusyHouse.with("a"), house -> house.want(0, 5),
                LeaseHouse.NONE);
    }

    private static void aClientThatWaitsGetsNone() {
        check.nothingIsDone("want(2, 9) by one who waits", BusyHouse.with("b"), house -> house.want(2, 9),
                LeaseHouse.NONE);
    }

    private static void aClientThatWaitsGetsNoneWithAFullRow() {
        for (int waits = 1; waits <= 5; waits++) {
            int client = waits;
            check.nothingIsDone("want(" + client + ", 9) by one who waits", BusyHouse.with("a"),
                    house -> house.want(client, 9), LeaseHouse.NONE);
        }
    }

    private static void theFifthStillFits() {
        LeaseHouse house = Check.houseWith("c");
        house.want(15, 9);
        for (int k = 1; k <= 5; k++) {
            check.due("want of the " + k + "-th who waits", house.want(k - 1, 9), k);
            check.due("waiting(" + (k - 1) + ")", house.waiting(k - 1), k - 1);
        }
        check.due("want of the sixth", house.want(5, 9), LeaseHouse.FULL);
    }

    private static void aRowWith5IsFull() {
        for (int another = 6; another <= 15; another++) {
            int client = another;
            check.nothingIsDone("want(" + client + ", 9) with 5 that wait", BusyHouse.with("a"),
                    house -> house.want(client, 9), LeaseHouse.FULL);
        }
    }

    private static void aRowWithRoomAgainIsNotFull() {
        LeaseHouse house = BusyHouse.make(0, "a");
        house.leave(2);
        check.due("want when one has left", house.want(9, 9), 5);
        check.due("want of one more", house.want(10, 9), LeaseHouse.FULL);
        house.free(0);
        check.due("want when one was STARTED", house.want(10, 9), 5);
        check.due("waiting(4)", house.waiting(4), 10);
        check.due("waiting(3)", house.waiting(3), 9);
    }

    private static void aClientMayHoldAndWaitForOtherNames() {
        LeaseHouse house = BusyHouse.make(0, "b");
        check.due("want(0, 5) by who holds another name", house.want(0, 5), 2);
        check.due("want(3, 5) by who waits for another name", house.want(3, 5), 3);
        Check.write(house, "z");
        check.due("want(0, 5) of a free name", house.want(0, 5), 0);
        Check.write(house, "zz");
        check.due("want(0, 5) of another free name", house.want(0, 5), 0);
    }

    private static void aNameThatIsFreeAgainIsLent() {
        LeaseHouse house = BusyHouse.make(0, "ab");
        check.due("want(9, 1)", house.want(9, 1), 0);
        check.due("holder()", house.holder(), 9);
        check.due("changes", house.count(6), 5);
        house.tick(1);
        check.due("want(9, 1) when the lease has ended", house.want(9, 1), 0);
    }

    private static void whoHeldItMayWaitAgain() {
        LeaseHouse house = BusyHouse.make(0, "b");
        house.free(1);
        check.due("want(1, 5) by who held it", house.want(1, 5), 1);
        house.leave(1);
        check.due("want(1, 5) by who left", house.want(1, 5), 1);
        check.due("want(2, 5) by who waited and holds it now", house.want(2, 5), LeaseHouse.NONE);
    }

    private static void onlyALeaseThatBeganIsTold() {
        LeaseHouse house = Check.houseWith("c");
        house.watch(9);
        house.want(1, 5);
        check.due("changes", house.count(6), 1);
        house.want(2, 5);
        house.want(2, 5);
        house.want(1, 5);
        check.due("changes, when others wait", house.count(6), 1);
        check.due("note(9), a lease began", house.note(9), 1);
        check.due("note(9)", house.note(9), LeaseHouse.NONE);
    }
}
