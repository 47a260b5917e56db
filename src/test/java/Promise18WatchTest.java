/** Promise 18, its boundary cases: no name, no such client, a client that watches already. */
public final class Promise18WatchTest {
    private static final Check check = new Check();

    public static void main(String[] args) {
        withoutANameItIsRefused();
        clientsThatThereAreNotAreRefused();
        theFirstWatcherIs1();
        all16MayWatch();
        whoWatchesAlreadyDoesNoMore();
        theLastOneThatGoesLeaves0();
        whoComesBackWatchesAgain();
        othersGoOnWatching();
        namesAreWatchedApart();
        whatCameBeforeIsNotTold();
        notesStayWhenItDoesNoMore();
        onlyTheWatchersAreChanged();
        check.end();
    }

    private static void withoutANameItIsRefused() {
        for (int any = 0; any < 16; any++) {
            int client = any;
            check.nothingIsDone("watch(" + client + ") without a name", BusyHouse.with(""),
                    house -> house.watch(client), LeaseHouse.REFUSED);
        }
    }

    private static void clientsThatThereAreNotAreRefused() {
        for (String name : BusyHouse.NAMES) {
            for (int client : Check.NO_CLIENTS) {
                check.nothingIsDone("watch(" + client + ") of " + name, BusyHouse.with(name),
                        house -> house.watch(client), LeaseHouse.REFUSED);
            }
        }
    }

    private static void theFirstWatcherIs1() {
        for (int client : new int[] {0, 15}) {
            LeaseHouse house = Check.houseWith("c");
            check.due("watch(" + client + ")", house.watch(client), 1);
            check.due("names that are watched", house.count(5), 1);
        }
    }

    private static void all16MayWatch() {
        LeaseHouse house = Check.houseWith("c");
        for (int client = 0; client < 16; client++) {
            check.due("watch(" + client + ")", house.watch(client), client + 1);
        }
        house.want(3, 5);
        check.due("notes", house.count(7), 16);
        for (int client = 0; client < 16; client++) {
            check.due("note(" + client + ")", house.note(client), 1);
        }
    }

    private static void whoWatchesAlreadyDoesNoMore() {
        LeaseHouse house = BusyHouse.make(0, "ab");
        check.due("watch(7) again", house.watch(7), 1);
        house.want(9, 5);
        check.due("notes", house.count(7), 14);
        check.due("watch(3) again", house.watch(3), 0);
        check.due("names that are watched", house.count(5), 3);
    }

    private static void theLastOneThatGoesLeaves0() {
        LeaseHouse house = Check.houseWith("c");
        house.watch(0);
        check.due("watch(0) again", house.watch(0), 0);
        check.due("names that are watched", house.count(5), 0);
        house.want(1, 5);
        check.due("notes", house.count(7), 0);
    }

    private static void whoComesBackWatchesAgain() {
        LeaseHouse house = Check.houseWith("c");
        for (int k = 1; k <= 7; k++) {
            check.due("watch(15), " + k + " times", house.watch(15), k % 2);
        }
        house.want(1, 5);
        check.due("note(15)", house.note(15), 1);
        check.due("note(15) once", house.note(15), LeaseHouse.NONE);
    }

    private static void othersGoOnWatching() {
        LeaseHouse house = Check.houseWith("c");
        house.watch(0);
        house.watch(15);
        house.watch(8);
        check.due("watch(15) again", house.watch(15), 2);
        house.want(1, 5);
        check.due("note(0)", house.note(0), 1);
        check.due("note(8)", house.note(8), 1);
        check.due("note(15)", house.note(15), LeaseHouse.NONE);
    }

    private static void namesAreWatchedApart() {
        LeaseHouse house = Check.houseWith("a");
        house.watch(5);
        Check.write(house, "aa");
        check.due("watch(5) of another name", house.watch(5), 1);
        check.due("names that are watched", house.count(5), 2);
        house.watch(5);
        Check.write(house, "a");
        check.due("watch(6)", house.watch(6), 2);
    }

    private static void whatCameBeforeIsNotTold() {
        LeaseHouse house = Check.houseWith("c");
        house.want(1, 5);
        house.renew(1, 5);
        house.watch(2);
        check.due("note(2)", house.note(2), LeaseHouse.NONE);
        house.free(1);
        check.due("note(2)", house.note(2), 4);
    }

    private static void notesStayWhenItDoesNoMore() {
        LeaseHouse house = Check.houseWith("c");
        house.watch(2);
        house.want(1, 5);
        house.watch(2);
        house.free(1);
        check.due("notes", house.count(7), 1);
        check.due("note(2)", house.note(2), 1);
        check.due("note(2)", house.note(2), LeaseHouse.NONE);
    }

    private static void onlyTheWatchersAreChanged() {
        for (String name : BusyHouse.NAMES) {
            check.same("watch twice", () -> {
                LeaseHouse house = BusyHouse.make(0, name);
                house.watch(9);
                house.watch(9);
                return house;
            }, BusyHouse.with(name));
        }
    }
}
