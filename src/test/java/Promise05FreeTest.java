/** Promise 5, its boundary cases: no name, no such client, a client that does not hold the name, nobody after. */
public final class Promise05FreeTest {
    private static final Check check = new Check();

    public static void main(String[] args) {
        withoutANameItIsRefused();
        clientsThatThereAreNotAreRefused();
        aClientThatDoesNotHoldItIsRefused();
        aClientThatWaitsIsRefused();
        aClientThatHoldsAnotherNameIsRefused();
        aNameThatNobodyHoldsIsRefused();
        aLeaseThatHasEndedIsRefused();
        withNobodyAfterItIsNone();
        withOneAfterItIsThatOne();
        clients0And15AreTold();
        check.end();
    }

    private static void withoutANameItIsRefused() {
        for (int holder : new int[] {0, 1, 15}) {
            check.nothingIsDone("free(" + holder + ") without a name", BusyHouse.with(""),
                    house -> house.free(holder), LeaseHouse.REFUSED);
        }
    }

    private static void clientsThatThereAreNotAreRefused() {
        for (String name : BusyHouse.NAMES) {
            for (int client : Check.NO_CLIENTS) {
                check.nothingIsDone("free(" + client + ") of " + name, BusyHouse.with(name),
                        house -> house.free(client), LeaseHouse.REFUSED);
            }
        }
    }

    private static void aClientThatDoesNotHoldItIsRefused() {
        for (int other = 0; other < 15; other++) {
            int client = other;
            check.nothingIsDone("free(" + client + ")", BusyHouse.with("zzzzzz"), house -> house.free(client),
                    LeaseHouse.REFUSED);
        }
    }

    private static void aClientThatWaitsIsRefused() {
        for (int waits = 1; waits <= 5; waits++) {
            int client = waits;
            check.nothingIsDone("free(" + client + ") by one who waits", BusyHouse.with("a"),
                    house -> house.free(client), LeaseHouse.REFUSED);
        }
    }

    private static void aClientThatHoldsAnotherNameIsRefused() {
        check.nothingIsDone("free(0) of b, when it holds a", BusyHouse.with("b"), house -> house.free(0),
                LeaseHouse.REFUSED);
        check.nothingIsDone("free(1) of a, when it holds b", BusyHouse.with("a"), house -> house.free(1),
                LeaseHouse.REFUSED);
    }

    private static void aNameThatNobodyHoldsIsRefused() {
        for (int any = 0; any < 16; any++) {
            int client = any;
            check.nothingIsDone("free(" + client + ") of a name never lent", BusyHouse.with("z"),
                    house -> house.free(client), LeaseHouse.REFUSED);
            check.nothingIsDone("free(" + client + ") of a name free again", BusyHouse.with("ab"),
                    house -> house.free(client), LeaseHouse.REFUSED);
        }
    }

    private static void aLeaseThatHasEndedIsRefused() {
        LeaseHouse house = Check.houseWith("c");
        house.want(4, 1);
        house.tick(1);
        check.due("free(4) when time ended it", house.free(4), LeaseHouse.REFUSED);
        house.want(4, 1);
        house.free(4);
        check.due("free(4) again", house.free(4), LeaseHouse.REFUSED);
        check.due("changes", house.count(6), 4);
    }

    private static void withNobodyAfterItIsNone() {
        LeaseHouse house = BusyHouse.make(0, "zzzzzz");
        check.due("free(15)", house.free(15), LeaseHouse.NONE);
        check.due("holder()", house.holder(), LeaseHouse.NONE);
        check.due("left()", house.left(), LeaseHouse.NONE);
        check.due("leases", house.count(1), 2);
        check.due("changes", house.count(6), 2);
        check.due("note(15), the begin", house.note(15), 1);
        check.due("note(15), the end", house.note(15), 4);
    }

    private static void withOneAfterItIsThatOne() {
        LeaseHouse house = BusyHouse.make(0, "b");
        check.due("free(1)", house.free(1), 2);
        check.due("left() from now on", house.left(), 1);
        check.due("it waits no more", house.waiting(0), LeaseHouse.NONE);
        check.due("leases", house.count(1), 3);
        check.due("changes", house.count(6), 2);
        check.due("it waited 3", house.waits(3, 4), 1);
        check.due("free(2)", house.free(2), LeaseHouse.NONE);
    }

    private static void clients0And15AreTold() {
        LeaseHouse house = Check.houseWith("c");
        house.want(3, 9);
        house.want(0, 9);
        house.want(15, 9);
        check.due("free(3)", house.free(3), 0);
        check.due("free(0)", house.free(0), 15);
        check.due("free(15)", house.free(15), LeaseHouse.NONE);
    }
}
