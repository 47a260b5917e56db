/**
 * Promise 6, its boundary cases: no name, no such client, ticks below 1 and above 100, a client that
 * does not hold the name, and a time that is less than before.
 */
public final class Promise06RenewTest {
    private static final Check check = new Check();

    public static void main(String[] args) {
        withoutANameItIsRefused();
        clientsThatThereAreNotAreRefused();
        ticksBelow1AndAbove100AreRefused();
        aClientThatDoesNotHoldItIsRefused();
        aNameThatNobodyHoldsIsRefused();
        aLeaseThatHasEndedIsRefused();
        ticks1And100AreTaken();
        lessThanBeforeIsTaken();
        theSameAsBeforeIsAChangeToo();
        theRowStays();
        check.end();
    }

    private static void withoutANameItIsRefused() {
        for (int holder : new int[] {0, 1, 15}) {
            check.nothingIsDone("renew(" + holder + ", 5) without a name", BusyHouse.with(""),
                    house -> house.renew(holder, 5), LeaseHouse.REFUSED);
        }
    }

    private static void clientsThatThereAreNotAreRefused() {
        for (String name : BusyHouse.NAMES) {
            for (int client : Check.NO_CLIENTS) {
                check.nothingIsDone("renew(" + client + ", 5) of " + name, BusyHouse.with(name),
                        house -> house.renew(client, 5), LeaseHouse.REFUSED);
            }
        }
    }

    private static void ticksBelow1AndAbove100AreRefused() {
        for (int ticks : Check.NO_LEASE_TIMES) {
            check.nothingIsDone("renew(0, " + ticks + ")", BusyHouse.with("a"), house -> house.renew(0, ticks),
                    LeaseHouse.REFUSED);
            check.nothingIsDone("renew(9, " + ticks + ") by another", BusyHouse.with("a"),
                    house -> house.renew(9, ticks), LeaseHouse.REFUSED);
        }
    }

    private static void aClientThatDoesNotHoldItIsRefused() {
        for (int other = 1; other < 16; other++) {
            int client = other;
            check.nothingIsDone("renew(" + client + ", 5), 1 to 5 of whom wait", BusyHouse.with("a"),
                    house -> house.renew(client, 5), LeaseHouse.REFUSED);
        }
    }

    private static void aNameThatNobodyHoldsIsRefused() {
        for (int any = 0; any < 16; any++) {
            int client = any;
            check.nothingIsDone("renew(" + client + ", 5) of a name never lent", BusyHouse.with("z"),
                    house -> house.renew(client, 5), LeaseHouse.REFUSED);
            check.nothingIsDone("renew(" + client + ", 5) of a name free again", BusyHouse.with("ab"),
                    house -> house.renew(client, 5), LeaseHouse.REFUSED);
        }
    }

    private static void aLeaseThatHasEndedIsRefused() {
        LeaseHouse house = Check.houseWith("c");
        house.want(4, 1);
        house.want(5, 9);
        house.tick(1);
        check.due("renew(4, 5) at its end", house.renew(4, 5), LeaseHouse.REFUSED);
        check.due("renew(5, 5) by the one STARTED", house.renew(5, 5), 6);
    }

    private static void ticks1And100AreTaken() {
        LeaseHouse house = BusyHouse.make(0, "zzzzzz");
        check.due("renew(15, 100)", house.renew(15, 100), BusyHouse.NOW + 100);
        check.due("left()", house.left(), 100);
        check.due("renew(15, 1)", house.renew(15, 1), BusyHouse.NOW + 1);
        check.due("left()", house.left(), 1);
        check.due("tick(1)", house.tick(1), 1);
        check.due("holder()", house.holder(), LeaseHouse.NONE);
    }

    private static void lessThanBeforeIsTaken() {
        LeaseHouse house = Check.houseWith("c");
        house.want(4, 100);
        check.due("renew(4, 99)", house.renew(4, 99), 99);
        check.due("left()", house.left(), 99);
        house.tick(60);
        check.due("renew(4, 2)", house.renew(4, 2), 62);
        check.due("tick(1)", house.tick(1), 0);
        check.due("tick(1)", house.tick(1), 1);
        check.due("the time before is of no meaning", house.tick(60), 0);
    }

    private static void theSameAsBeforeIsAChangeToo() {
        LeaseHouse house = Check.houseWith("c");
        house.watch(9);
        house.want(4, 10);
        check.due("renew(4, 10)", house.renew(4, 10), 10);
        check.due("changes", house.count(6), 2);
        check.due("note(9)", house.note(9), 1);
        check.due("note(9)", house.note(9), 3);
    }

    private static void theRowStays() {
        LeaseHouse house = BusyHouse.make(0, "a");
        house.renew(0, 1);
        for (int k = 0; k < 5; k++) {
            check.due("waiting(" + k + ")", house.waiting(k), k + 1);
        }
        check.due("all who wait", house.count(2), 6);
        check.due("nobody was STARTED", house.waits(3, 4), 0);
    }
}
