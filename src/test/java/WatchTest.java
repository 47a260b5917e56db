/** Promises 18 (watch) and 19 (note). */
public final class WatchTest {
    private static final int[] NO_CLIENTS = {-1, 16, -2, 31, 32, Integer.MIN_VALUE, Integer.MAX_VALUE};
    private static final Check check = new Check();

    public static void main(String[] args) {
        watchBeginsAndEnds();
        watchRefusesWrongInputs();
        everyKindOfChangeIsTold();
        whatIsNoChangeIsNotTold();
        onlyThoseWhoWatchAreTold();
        eightNotesAreAllThereIsRoomFor();
        noteRefusesWrongInputs();
        check.end();
    }

    private static void watchBeginsAndEnds() {
        LeaseHouse house = Check.houseWith("a");
        for (int client = 15; client >= 0; client--) {
            check.due("watch(" + client + ")", house.watch(client), 16 - client);
        }
        check.due("names watched", house.count(5), 1);
        Check.write(house, "b");
        check.due("watch of another name", house.watch(3), 1);
        check.due("names watched", house.count(5), 2);
        check.due("watch again", house.watch(3), 0);
        check.due("names watched", house.count(5), 1);
        Check.write(house, "a");
        for (int client = 0; client < 16; client++) {
            check.due("watch(" + client + ") again", house.watch(client), 15 - client);
        }
        check.due("names watched", house.count(5), 0);
        check.due("watch once more", house.watch(0), 1);
        check.due("to watch is no change", house.count(6), 0);
        check.due("nor brings it notes", house.count(7), 0);
    }

    private static void watchRefusesWrongInputs() {
        LeaseHouse house = Check.houseWith("a");
        for (int client : NO_CLIENTS) {
            check.due("watch(" + client + ")", house.watch(client), LeaseHouse.REFUSED);
        }
        check.due("names watched", house.count(5), 0);
        house.erase();
        check.due("watch without a name", house.watch(0), LeaseHouse.REFUSED);
        check.due("names watched", house.count(5), 0);
    }

    private static void everyKindOfChangeIsTold() {
        LeaseHouse house = Check.houseWith("ab");
        house.watch(0);
        house.want(1, 5);
        house.want(2, 6);
        house.renew(1, 7);
        house.free(1);
        house.tick(6);
        check.due("changes", house.count(6), 4);
        check.due("notes", house.count(7), 4);
        house.want(3, 1);
        house.free(3);
        house.erase();
        int[] kinds = {1, 3, 2, 4, 1, 4};
        for (int k = 0; k < kinds.length; k++) {
            check.due("note(0), the " + k + "-th", house.note(0), kinds[k]);
            check.tapeIs(house, "ab");
            house.erase();
        }
        check.due("note(0) when all were told", house.note(0), LeaseHouse.NONE);
        check.tapeIs(house, "");
    }

    private static void whatIsNoChangeIsNotTold() {
        LeaseHouse house = Check.houseWith("a");
        house.watch(0);
        house.want(1, 50);
        check.due("note(0)", house.note(0), 1);
        house.want(1, 5);
        house.want(2, 5);
        house.leave(2);
        house.free(2);
        house.renew(2, 5);
        house.renew(1, 0);
        house.ask();
        house.job(0, 0);
        house.work();
        house.tick(49);
        house.first();
        house.watch(5);
        check.due("notes", house.count(7), 0);
        check.due("note(0)", house.note(0), LeaseHouse.NONE);
        check.due("note(5)", house.note(5), LeaseHouse.NONE);
    }

    private static void onlyThoseWhoWatchAreTold() {
        LeaseHouse house = Check.houseWith("a");
        house.watch(15);
        house.watch(0);
        house.want(1, 5);
        house.watch(0);
        house.renew(1, 5);
        house.watch(4);
        house.free(1);
        Check.write(house, "b");
        house.want(1, 5);
        check.due("notes", house.count(7), 5);
        check.due("note(0) from before it did no more", house.note(0), 1);
        check.due("note(0)", house.note(0), LeaseHouse.NONE);
        check.due("note(4) from when it began on", house.note(4), 4);
        check.due("note(4)", house.note(4), LeaseHouse.NONE);
        check.due("note(1) of one who only held it", house.note(1), LeaseHouse.NONE);
        check.due("note(15)", house.note(15), 1);
        check.due("note(15)", house.note(15), 3);
        check.due("note(15)", house.note(15), 4);
        check.tapeIs(house, "a");
        check.due("notes", house.count(7), 0);
    }

    private static void eightNotesAreAllThereIsRoomFor() {
        LeaseHouse house = Check.houseWith("a");
        house.watch(6);
        house.want(1, 5);
        for (int k = 0; k < 7; k++) {
            house.renew(1, 5);
        }
        check.due("notes", house.count(7), 8);
        Check.write(house, "b");
        house.watch(6);
        house.watch(7);
        house.want(2, 5);
        check.due("notes, one of them another client's", house.count(7), 9);
        for (int k = 0; k < 7; k++) {
            check.due("note(6): the begin is gone", house.note(6), 3);
            check.tapeIs(house, "a");
        }
        check.due("note(6), the newest", house.note(6), 1);
        check.tapeIs(house, "b");
        check.due("note(6)", house.note(6), LeaseHouse.NONE);
        check.due("note(7)", house.note(7), 1);
    }

    private static void noteRefusesWrongInputs() {
        LeaseHouse house = Check.houseWith("a");
        house.watch(0);
        house.watch(15);
        house.want(0, 5);
        Check.write(house, "b");
        for (int client : NO_CLIENTS) {
            check.due("note(" + client + ")", house.note(client), LeaseHouse.REFUSED);
        }
        check.tapeIs(house, "b");
        check.due("notes", house.count(7), 2);
        house.erase();
        check.due("note(15) without a name", house.note(15), 1);
        check.tapeIs(house, "a");
    }
}
