/** Promises 8 (tick) and 12 (first). */
public final class TimeTest {
    private static final Check check = new Check();

    public static void main(String[] args) {
        tickMovesNow();
        tickRefusesWrongInputs();
        leasesEndAtTheirTime();
        rowsMoveOnWithinOneCall();
        leasesEndByTheirNamesOrder();
        tickLeavesTheTape();
        firstTellsTheNextThatEnds();
        firstFollowsRenewals();
        check.end();
    }

    private static void tickMovesNow() {
        LeaseHouse house = new LeaseHouse(0);
        check.due("tick(0)", house.tick(0), 0);
        check.due("now", house.count(0), 0);
        check.due("tick(1)", house.tick(1), 0);
        check.due("now", house.count(0), 1);
        check.due("tick(60)", house.tick(60), 0);
        check.due("now", house.count(0), 61);
        for (int k = 0; k < 500; k++) {
            house.tick(60);
        }
        check.due("now", house.count(0), 61 + 500 * 60);
    }

    private static void tickRefusesWrongInputs() {
        LeaseHouse house = Check.houseWith("a");
        house.want(0, 1);
        int[] others = {61, -1, 100, Integer.MIN_VALUE, Integer.MAX_VALUE};
        for (int n : others) {
            check.due("tick(" + n + ")", house.tick(n), LeaseHouse.REFUSED);
        }
        check.due("now", house.count(0), 0);
        check.due("left()", house.left(), 1);
    }

    private static void leasesEndAtTheirTime() {
        LeaseHouse house = Check.houseWith("a");
        house.want(0, 60);
        check.due("tick(0)", house.tick(0), 0);
        check.due("tick(59)", house.tick(59), 0);
        check.due("holder()", house.holder(), 0);
        check.due("tick(1)", house.tick(1), 1);
        check.due("holder()", house.holder(), LeaseHouse.NONE);
        check.due("changes", house.count(6), 2);
        check.due("tick(60) with no lease", house.tick(60), 0);
        house.want(0, 60);
        check.due("tick(60) up to the very end", house.tick(60), 1);
        house.want(0, 100);
        check.due("tick(60)", house.tick(60), 0);
        check.due("left()", house.left(), 40);
        check.due("tick(60) past the end", house.tick(60), 1);
        check.due("now", house.count(0), 60 + 60 + 60 + 120);
    }

    private static void rowsMoveOnWithinOneCall() {
        LeaseHouse house = Check.houseWith("a");
        house.want(0, 3);
        house.want(1, 1);
        house.want(2, 2);
        house.want(3, 50);
        house.want(4, 9);
        check.due("tick(10)", house.tick(10), 3);
        check.due("holder()", house.holder(), 3);
        check.due("left() from its start at 6 on", house.left(), 46);
        check.due("waiting(0)", house.waiting(0), 4);
        check.due("waited 3, 4 and 6", house.waits(0, 100), 3);
        check.due("waited 3", house.waits(3, 4), 1);
        check.due("waited 4", house.waits(4, 5), 1);
        check.due("waited 6", house.waits(6, 7), 1);
        check.due("changes", house.count(6), 4);
        check.due("tick(55) till the end of all", house.tick(55), 2);
        check.due("leases", house.count(1), 0);
        check.due("changes", house.count(6), 6);
    }

    /** The order of the ends is told by the notes of one who watches all names. */
    private static void leasesEndByTheirNamesOrder() {
        LeaseHouse house = new LeaseHouse(0);
        String[] names = {"ba", "b", "aaa", "ab", "z", "c"};
        int[] ticks = {5, 5, 5, 5, 4, 5};
        for (int k = 0; k < names.length; k++) {
            Check.write(house, names[k]);
            house.want(k, ticks[k]);
            house.watch(15);
        }
        Check.write(house, "b");
        house.want(9, 1);
        check.due("tick(6)", house.tick(6), 7);
        String[] ended = {"z", "b", "c", "ab", "ba", "aaa", "b"};
        int[] kinds = {4, 2, 4, 4, 4, 4, 4};
        for (int k = 0; k < ended.length; k++) {
            check.due("kind of note " + k, house.note(15), kinds[k]);
            check.tapeIs(house, ended[k]);
        }
        check.due("no more notes", house.note(15), LeaseHouse.NONE);
    }

    private static void tickLeavesTheTape() {
        LeaseHouse house = Check.houseWith("ab");
        house.want(0, 1);
        Check.write(house, "cd");
        house.tick(1);
        check.tapeIs(house, "cd");
        house.erase();
        house.tick(1);
        check.tapeIs(house, "");
    }

    private static void firstTellsTheNextThatEnds() {
        LeaseHouse house = Check.houseWith("zz");
        check.due("first() with no lease", house.first(), LeaseHouse.NONE);
        check.tapeIs(house, "zz");
        house.want(1, 8);
        Check.write(house, "b");
        house.want(2, 9);
        Check.write(house, "aa");
        house.want(3, 8);
        check.due("first()", house.first(), 3);
        check.tapeIs(house, "aa");
        check.due("first() again", house.first(), 3);
        house.free(3);
        house.erase();
        check.due("first() without a name", house.first(), 1);
        check.tapeIs(house, "zz");
        Check.write(house, "c");
        house.want(4, 8);
        check.due("first() of the shorter name", house.first(), 4);
        check.tapeIs(house, "c");
        house.tick(8);
        check.due("first() later", house.first(), 2);
        check.tapeIs(house, "b");
        house.tick(1);
        check.due("first() when all have ended", house.first(), LeaseHouse.NONE);
        check.tapeIs(house, "b");
    }

    private static void firstFollowsRenewals() {
        LeaseHouse house = Check.houseWith("a");
        house.want(1, 5);
        house.want(7, 100);
        Check.write(house, "b");
        house.want(2, 6);
        check.due("first()", house.first(), 1);
        house.renew(1, 7);
        check.due("first() after a renewal", house.first(), 2);
        house.renew(2, 7);
        check.due("first() at the same time, by names", house.first(), 1);
        house.free(1);
        check.due("first() after a start", house.first(), 2);
    }
}
