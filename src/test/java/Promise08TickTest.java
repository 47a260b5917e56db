/**
 * Promise 8, its boundary cases: n below 0, 0, 60 and above 60; leases that end in one tick, by
 * their names' order, and those STARTED by that.
 */
public final class Promise08TickTest {
    private static final int[] NO_TICKS = {-1, 61, -60, 100, 256, 65536 + 1, Check.LEAST, Check.LEAST + 1, Check.MOST};
    private static final Check check = new Check();

    public static void main(String[] args) {
        nBelow0AndAbove60IsRefused();
        n0DoesNothing();
        n60IsTaken();
        noNameIsNeeded();
        aLeaseEndsWhenUntilIsNow();
        aLeaseOf100TicksOutlastsOneCall();
        leasesOfOneTickEndByTheirNamesOrder();
        shorterNamesEndFirst();
        anEarlierTickComesBeforeNamesOrder();
        thoseStartedAreUntilLater();
        thoseStartedEndInLaterTicksOfTheCall();
        allRowsOfAllNamesMayEndInOneCall();
        startsAmongEndsKeepTheNamesOrder();
        waitsAreCountedTillTheTickOfTheStart();
        aLeaseThatWasFreedDoesNotEndAgain();
        onlyLeasesAndNowAreChanged();
        check.end();
    }

    private static void nBelow0AndAbove60IsRefused() {
        for (int n : NO_TICKS) {
            check.nothingIsDone("tick(" + n + ")", BusyHouse.with("a"), house -> house.tick(n), LeaseHouse.REFUSED);
            check.nothingIsDone("tick(" + n + ") in a new house", () -> new LeaseHouse(0), house -> house.tick(n),
                    LeaseHouse.REFUSED);
        }
    }

    private static void n0DoesNothing() {
        check.nothingIsDone("tick(0)", BusyHouse.with("a"), house -> house.tick(0), 0);
        LeaseHouse house = Check.houseWith("c");
        house.want(1, 1);
        check.due("tick(0) a tick before an end", house.tick(0), 0);
        house.tick(1);
        house.want(1, 1);
        check.due("tick(0) in the tick of a begin", house.tick(0), 0);
        check.due("left()", house.left(), 1);
    }

    private static void n60IsTaken() {
        LeaseHouse house = Check.houseWith("c");
        house.want(1, 60);
        check.due("tick(60)", house.tick(60), 1);
        check.due("now", house.count(0), 60);
        check.due("tick(1)", house.tick(1), 0);
        check.due("now", house.count(0), 61);
        check.due("tick(59)", house.tick(59), 0);
        check.due("now", house.count(0), 120);
    }

    private static void noNameIsNeeded() {
        LeaseHouse house = BusyHouse.make(0, "");
        // At 44 "b" goes to 2, at 45 it ends; at 54 "a" goes to 1, at 65 to 2.
        check.due("tick(60) without a name", house.tick(60), 4);
        check.due("now", house.count(0), 67);
        check.due("letter(0)", house.letter(0), LeaseHouse.NONE);
    }

    private static void aLeaseEndsWhenUntilIsNow() {
        LeaseHouse house = Check.houseWith("c");
        house.want(1, 2);
        check.due("tick(1)", house.tick(1), 0);
        check.due("holder() a tick before", house.holder(), 1);
        check.due("tick(1)", house.tick(1), 1);
        check.due("holder()", house.holder(), LeaseHouse.NONE);
        check.due("tick(1)", house.tick(1), 0);
    }

    private static void aLeaseOf100TicksOutlastsOneCall() {
        LeaseHouse house = Check.houseWith("c");
        house.want(1, 100);
        check.due("tick(60)", house.tick(60), 0);
        check.due("tick(39)", house.tick(39), 0);
        check.due("left()", house.left(), 1);
        check.due("tick(60)", house.tick(60), 1);
        check.due("now", house.count(0), 159);
    }

    private static void leasesOfOneTickEndByTheirNamesOrder() {
        LeaseHouse house = lendAll(3, "bb", "ba", "ab", "zz", "aa");
        check.due("tick(3)", house.tick(3), 5);
        notesAre(house, 4, "aa", "ab", "ba", "bb", "zz");
    }

    private static void shorterNamesEndFirst() {
        LeaseHouse house = lendAll(3, "aaaaaa", "aaaaa", "z", "aaa", "zz", "a", "azzz");
        check.due("tick(3)", house.tick(3), 7);
        notesAre(house, 4, "a", "z", "zz", "aaa", "azzz", "aaaaa", "aaaaaa");
    }

    private static void anEarlierTickComesBeforeNamesOrder() {
        LeaseHouse house = new LeaseHouse(0);
        lend(house, "a", 0, 3);
        lend(house, "z", 0, 2);
        lend(house, "zz", 0, 1);
        check.due("tick(3)", house.tick(3), 3);
        notesAre(house, 4, "zz", "z", "a");
    }

    private static void thoseStartedAreUntilLater() {
        LeaseHouse house = Check.houseWith("c");
        house.want(0, 1);
        house.want(1, 1);
        house.want(2, 1);
        check.due("tick(1)", house.tick(1), 1);
        check.due("holder()", house.holder(), 1);
        check.due("left()", house.left(), 1);
        check.due("tick(1)", house.tick(1), 1);
        check.due("holder()", house.holder(), 2);
    }

    private static void thoseStartedEndInLaterTicksOfTheCall() {
        LeaseHouse house = Check.houseWith("c");
        for (int client = 0; client < 6; client++) {
            house.want(client, 10);
        }
        check.due("tick(59)", house.tick(59), 5);
        check.due("holder()", house.holder(), 5);
        check.due("left()", house.left(), 1);
        check.due("tick(1)", house.tick(1), 1);
        check.due("holder()", house.holder(), LeaseHouse.NONE);
        check.due("changes", house.count(6), 7);
        for (int client = 0; client < 6; client++) {
            house.want(client, 10);
        }
        check.due("tick(60) ends all in one call", house.tick(60), 6);
    }

    private static void allRowsOfAllNamesMayEndInOneCall() {
        LeaseHouse house = new LeaseHouse(0);
        for (char letter = 'a'; letter <= 'z'; letter++) {
            house.erase();
            house.sign(letter);
            for (int client = 0; client < 6; client++) {
                house.want(client, 1);
            }
        }
        check.due("tick(5)", house.tick(5), 26 * 5);
        check.due("leases", house.count(1), 26);
        check.due("all who wait", house.count(2), 0);
        check.due("tick(1)", house.tick(1), 26);
        check.due("leases", house.count(1), 0);
        for (int client = 0; client < 6; client++) {
            house.want(client, 1);
        }
        check.due("tick(60)", house.tick(60), 6);
    }

    private static void startsAmongEndsKeepTheNamesOrder() {
        LeaseHouse house = new LeaseHouse(0);
        lend(house, "b", 0, 2);
        lend(house, "a", 1, 2);
        lend(house, "c", 2, 2);
        Check.write(house, "b");
        house.want(7, 1);
        check.due("tick(3)", house.tick(3), 4);
        int[] kinds = {4, 2, 4, 4};
        String[] names = {"a", "b", "c", "b"};
        for (int k = 0; k < kinds.length; k++) {
            check.due("note " + k, house.note(15), kinds[k]);
            check.tapeIs(house, names[k]);
        }
    }

    private static void waitsAreCountedTillTheTickOfTheStart() {
        LeaseHouse house = Check.houseWith("c");
        house.want(0, 5);
        house.tick(2);
        house.want(1, 4);
        house.want(2, 50);
        house.tick(30);
        check.due("waited 3, from 2 to 5", house.waits(3, 4), 1);
        check.due("waited 7, from 2 to 9", house.waits(7, 8), 1);
        check.due("waited by all", house.waits(0, 100), 2);
        check.due("left() from 9 on", house.left(), 27);
    }

    private static void aLeaseThatWasFreedDoesNotEndAgain() {
        LeaseHouse house = Check.houseWith("c");
        house.want(0, 5);
        house.free(0);
        check.due("tick(5)", house.tick(5), 0);
        check.due("changes", house.count(6), 2);
    }

    private static void onlyLeasesAndNowAreChanged() {
        LeaseHouse house = BusyHouse.make(0, "ab");
        house.tick(1);
        check.tapeIs(house, "ab");
        int[] counts = {BusyHouse.NOW + 1, 3, 6, 5, 4, 4, 4, 13};
        for (int what = 0; what < counts.length; what++) {
            check.due("count(" + what + ")", house.count(what), counts[what]);
        }
    }

    /** All these names are lent for so many ticks; client 15 watches them and has no notes yet. */
    private static LeaseHouse lendAll(int ticks, String... names) {
        LeaseHouse house = new LeaseHouse(0);
        for (int k = 0; k < names.length; k++) {
            lend(house, names[k], k, ticks);
        }
        return house;
    }

    private static void lend(LeaseHouse house, String name, int client, int ticks) {
        Check.write(house, name);
        house.want(client, ticks);
        house.watch(15);
    }

    private static void notesAre(LeaseHouse house, int kind, String... names) {
        for (String name : names) {
            check.due("note(15) of " + name, house.note(15), kind);
            check.tapeIs(house, name);
        }
        check.due("note(15) after all", house.note(15), LeaseHouse.NONE);
    }
}
