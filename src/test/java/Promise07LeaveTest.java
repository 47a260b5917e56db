/** Promise 7, its boundary cases: no name, no such client, a client that does not wait, the last one that waits. */
public final class Promise07LeaveTest {
    private static final Check check = new Check();

    public static void main(String[] args) {
        withoutANameItIsRefused();
        clientsThatThereAreNotAreRefused();
        aClientThatDoesNotWaitGetsNone();
        theHolderDoesNotWait();
        whoWaitsForAnotherNameDoesNotWait();
        aNameWithoutARowHasNoneThatWait();
        whoHasLeftDoesNotWait();
        whoWasStartedDoesNotWait();
        theLastOneLeaves0();
        theFirstAndTheLastOfTheRowMayLeave();
        whoLeavesHasNotWaited();
        check.end();
    }

    private static void withoutANameItIsRefused() {
        for (int waits = 1; waits <= 5; waits++) {
            int client = waits;
            check.nothingIsDone("leave(" + client + ") without a name", BusyHouse.with(""),
                    house -> house.leave(client), LeaseHouse.REFUSED);
        }
    }

    private static void clientsThatThereAreNotAreRefused() {
        for (String name : BusyHouse.NAMES) {
            for (int client : Check.NO_CLIENTS) {
                check.nothingIsDone("leave(" + client + ") of " + name, BusyHouse.with(name),
                        house -> house.leave(client), LeaseHouse.REFUSED);
            }
        }
    }

    private static void aClientThatDoesNotWaitGetsNone() {
        for (int other = 6; other < 16; other++) {
            int client = other;
            check.nothingIsDone("leave(" + client + ")", BusyHouse.with("a"), house -> house.leave(client),
                    LeaseHouse.NONE);
        }
    }

    private static void theHolderDoesNotWait() {
        check.nothingIsDone("leave(0) by the holder", BusyHouse.with("a"), house -> house.leave(0),
                LeaseHouse.NONE);
        check.nothingIsDone("leave(15) by the holder", BusyHouse.with("zzzzzz"), house -> house.leave(15),
                LeaseHouse.NONE);
    }

    private static void whoWaitsForAnotherNameDoesNotWait() {
        check.nothingIsDone("leave(3) of b, when it waits for a", BusyHouse.with("b"), house -> house.leave(3),
                LeaseHouse.NONE);
    }

    private static void aNameWithoutARowHasNoneThatWait() {
        for (String name : new String[] {"zzzzzz", "ab", "z"}) {
            for (int any = 0; any < 16; any++) {
                int client = any;
                check.nothingIsDone("leave(" + client + ") of " + name, BusyHouse.with(name),
                        house -> house.leave(client), LeaseHouse.NONE);
            }
        }
    }

    private static void whoHasLeftDoesNotWait() {
        LeaseHouse house = BusyHouse.make(0, "a");
        check.due("leave(3)", house.leave(3), 4);
        check.due("leave(3) again", house.leave(3), LeaseHouse.NONE);
        check.due("all who wait", house.count(2), 5);
    }

    private static void whoWasStartedDoesNotWait() {
        LeaseHouse house = BusyHouse.make(0, "b");
        house.free(1);
        check.due("leave(2) by the one STARTED", house.leave(2), LeaseHouse.NONE);
        check.due("holder()", house.holder(), 2);
    }

    private static void theLastOneLeaves0() {
        LeaseHouse house = BusyHouse.make(0, "b");
        check.due("leave(2)", house.leave(2), 0);
        check.due("waiting(0)", house.waiting(0), LeaseHouse.NONE);
        check.due("holder()", house.holder(), 1);
        check.due("free(1)", house.free(1), LeaseHouse.NONE);
    }

    private static void theFirstAndTheLastOfTheRowMayLeave() {
        LeaseHouse house = BusyHouse.make(0, "a");
        check.due("leave(1), the first", house.leave(1), 4);
        check.due("waiting(0)", house.waiting(0), 2);
        check.due("leave(5), the last", house.leave(5), 3);
        check.due("waiting(2)", house.waiting(2), 4);
        check.due("waiting(3)", house.waiting(3), LeaseHouse.NONE);
        check.due("free(0)", house.free(0), 2);
        check.due("left()", house.left(), 12);
    }

    private static void whoLeavesHasNotWaited() {
        LeaseHouse house = BusyHouse.make(0, "b");
        house.leave(2);
        check.due("waits(3, 4)", house.waits(3, 4), 0);
        check.due("waits of before", house.waits(0, 100), 2);
        check.due("changes", house.count(6), 1);
    }
}
