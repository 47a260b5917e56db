/** Promise 1: a new object, and what the terms say is so at first. */
public final class NewObjectTest {
    private static final int[] SORTS = {0, 1, 2, 3, -1, Integer.MIN_VALUE, Integer.MAX_VALUE};
    private static final Check check = new Check();

    public static void main(String[] args) {
        for (int sort : SORTS) {
            allIsEmptyAtFirst(sort);
            theSortIsOfNoMeaning(sort);
        }
        housesShareNothing();
        check.end();
    }

    private static void allIsEmptyAtFirst(int sort) {
        LeaseHouse house = new LeaseHouse(sort);
        for (int what = 0; what <= 7; what++) {
            check.due("count(" + what + ") of a new house", house.count(what), 0);
        }
        check.tapeIs(house, "");
        check.due("first() of a new house", house.first(), LeaseHouse.NONE);
        check.due("work() of a new house", house.work(), 1L << 40);
        check.due("waits of a new house", house.waits(Integer.MIN_VALUE, Integer.MAX_VALUE), 0);
        check.due("waited of a new house", house.waited(Integer.MAX_VALUE), LeaseHouse.NONE);
        for (int client = 0; client < 16; client++) {
            check.due("note(" + client + ") of a new house", house.note(client), LeaseHouse.NONE);
        }
        check.due("erase() of a new house", house.erase(), 0);
        Check.write(house, "a");
        check.due("holder() of a new house", house.holder(), LeaseHouse.NONE);
        check.due("left() of a new house", house.left(), LeaseHouse.NONE);
        check.due("waiting(0) of a new house", house.waiting(0), LeaseHouse.NONE);
        check.due("known() of a new house", house.known(), false);
        check.due("cancel() of a new house", house.cancel(), 0);
        check.due("changes in a new house", house.count(6), 0);
    }

    /** Names that many ways of hashing would throw together, and whose order is told by tick and first. */
    private static void theSortIsOfNoMeaning(int sort) {
        LeaseHouse house = new LeaseHouse(sort);
        String[] names = {"ba", "ab", "zzzzzz", "aaaaaa", "b", "a", "az", "za"};
        for (int client = 0; client < names.length; client++) {
            Check.write(house, names[client]);
            check.due("sort " + sort + ": want of " + names[client], house.want(client, 9), 0);
        }
        check.due("sort " + sort + ": leases", house.count(1), names.length);
        String[] inOrder = {"a", "b", "ab", "az", "ba", "za", "aaaaaa", "zzzzzz"};
        int[] holders = {5, 4, 1, 6, 0, 7, 3, 2};
        for (int k = 0; k < inOrder.length; k++) {
            check.due("sort " + sort + ": first is " + inOrder[k], house.first(), holders[k]);
            check.tapeIs(house, inOrder[k]);
            house.free(holders[k]);
        }
        check.due("sort " + sort + ": no lease is left", house.count(1), 0);
    }

    private static void housesShareNothing() {
        LeaseHouse one = Check.houseWith("a");
        LeaseHouse other = Check.houseWith("a");
        one.want(1, 5);
        one.job(1, 0);
        one.ask();
        one.watch(2);
        one.tick(3);
        check.due("another house's holder()", other.holder(), LeaseHouse.NONE);
        for (int what = 0; what <= 7; what++) {
            check.due("another house's count(" + what + ")", other.count(what), 0);
        }
    }
}
