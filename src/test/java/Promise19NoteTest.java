/** Promise 19, its boundary cases: no such client, a client without notes, 8 notes of a client. */
public final class Promise19NoteTest {
    private static final Check check = new Check();

    public static void main(String[] args) {
        clientsThatThereAreNotAreRefused();
        aClientWithoutNotesGetsNoneAndTheTapeStays();
        aClientWhoseNotesWereAllToldGetsNone();
        noNameIsNeeded();
        theEighthFits();
        withTheNinthTheOldestGoes();
        withManyTheLast8Stay();
        roomIsMadeByTelling();
        theRowTurnsManyTimes();
        eightAreOfEachClient();
        theOldestGoesWhateverItsName();
        clients0And15HaveNotes();
        eachClientAloneHasNotes();
        aFullTapeIsWrittenOver();
        onlyTheNoteGoes();
        check.end();
    }

    private static void clientsThatThereAreNotAreRefused() {
        for (String tape : new String[] {"", "a", "zzzzzz"}) {
            for (int client : Check.NO_CLIENTS) {
                check.nothingIsDone("note(" + client + ")", BusyHouse.with(tape), house -> house.note(client),
                        LeaseHouse.REFUSED);
            }
        }
    }

    private static void aClientWithoutNotesGetsNoneAndTheTapeStays() {
        for (String tape : new String[] {"", "a", "zzzzzz"}) {
            for (int client : new int[] {0, 1, 2, 4, 14}) {
                check.nothingIsDone("note(" + client + ")", BusyHouse.with(tape), house -> house.note(client),
                        LeaseHouse.NONE);
            }
        }
    }

    private static void aClientWhoseNotesWereAllToldGetsNone() {
        LeaseHouse house = BusyHouse.make(0, "b");
        check.due("note(15)", house.note(15), 1);
        Check.write(house, "b");
        check.due("note(15) again", house.note(15), LeaseHouse.NONE);
        check.tapeIs(house, "b");
    }

    private static void noNameIsNeeded() {
        LeaseHouse house = BusyHouse.make(0, "");
        check.due("note(15) without a name", house.note(15), 1);
        check.tapeIs(house, "zzzzzz");
    }

    private static void theEighthFits() {
        LeaseHouse house = watchedLease();
        renew(house, 7);
        check.due("notes", house.count(7), 8);
        check.due("note(9), the begin", house.note(9), 1);
        tells(house, 7);
    }

    private static void withTheNinthTheOldestGoes() {
        LeaseHouse house = watchedLease();
        renew(house, 8);
        check.due("notes", house.count(7), 8);
        tells(house, 8);
    }

    private static void withManyTheLast8Stay() {
        LeaseHouse house = watchedLease();
        renew(house, 40);
        house.free(1);
        check.due("notes", house.count(7), 8);
        for (int k = 0; k < 7; k++) {
            check.due("note(9)", house.note(9), 3);
        }
        check.due("note(9), the end", house.note(9), 4);
        check.due("note(9)", house.note(9), LeaseHouse.NONE);
    }

    private static void roomIsMadeByTelling() {
        LeaseHouse house = watchedLease();
        renew(house, 7);
        check.due("note(9)", house.note(9), 1);
        renew(house, 1);
        check.due("notes", house.count(7), 8);
        tells(house, 8);
    }

    private static void theRowTurnsManyTimes() {
        LeaseHouse house = watchedLease();
        house.note(9);
        for (int round = 0; round < 30; round++) {
            house.renew(1, 5);
            house.free(1);
            house.want(1, 5);
            check.due("note(9), round " + round, house.note(9), 3);
            check.due("note(9), round " + round, house.note(9), 4);
            check.due("note(9), round " + round, house.note(9), 1);
        }
        check.due("note(9)", house.note(9), LeaseHouse.NONE);
    }

    private static void eightAreOfEachClient() {
        LeaseHouse house = Check.houseWith("c");
        for (int client = 0; client < 16; client++) {
            house.watch(client);
        }
        house.want(1, 50);
        renew(house, 20);
        check.due("notes", house.count(7), 16 * 8);
        house.note(4);
        check.due("notes", house.count(7), 16 * 8 - 1);
        renew(house, 1);
        check.due("notes", house.count(7), 16 * 8);
    }

    private static void theOldestGoesWhateverItsName() {
        LeaseHouse house = watchedLease();
        Check.write(house, "d");
        house.watch(9);
        house.want(2, 50);
        Check.write(house, "c");
        renew(house, 7);
        check.due("note(9) is of d, as that of c went", house.note(9), 1);
        check.tapeIs(house, "d");
        tells(house, 7);
        check.tapeIs(house, "c");
    }

    private static void clients0And15HaveNotes() {
        LeaseHouse house = Check.houseWith("c");
        house.watch(0);
        house.watch(15);
        house.want(1, 5);
        house.erase();
        check.due("note(0)", house.note(0), 1);
        check.tapeIs(house, "c");
        house.erase();
        check.due("note(15)", house.note(15), 1);
        check.tapeIs(house, "c");
    }

    private static void eachClientAloneHasNotes() {
        for (int watcher = 0; watcher < 16; watcher++) {
            LeaseHouse house = Check.houseWith("c");
            house.watch(watcher);
            house.want(1, 5);
            for (int client = 0; client < 16; client++) {
                check.due("note(" + client + ") when " + watcher + " watches", house.note(client),
                        client == watcher ? 1 : LeaseHouse.NONE);
            }
        }
    }

    private static void aFullTapeIsWrittenOver() {
        LeaseHouse house = BusyHouse.make(0, "zzzzzz");
        check.due("note(3)", house.note(3), 1);
        check.tapeIs(house, "ab");
        check.due("erase()", house.erase(), 2);
    }

    private static void onlyTheNoteGoes() {
        LeaseHouse house = BusyHouse.make(0, "b");
        check.due("note(7)", house.note(7), 2);
        check.tapeIs(house, "ab");
        int[] counts = {BusyHouse.NOW, 3, 6, 5, 4, 4, 4, 12};
        for (int what = 0; what < counts.length; what++) {
            check.due("count(" + what + ")", house.count(what), counts[what]);
        }
    }

    /** Client 9 watches "c", which client 1 holds, and has one note. */
    private static LeaseHouse watchedLease() {
        LeaseHouse house = Check.houseWith("c");
        house.watch(9);
        house.want(1, 50);
        return house;
    }

    private static void renew(LeaseHouse house, int times) {
        for (int k = 0; k < times; k++) {
            Check.write(house, "c");
            house.renew(1, 50);
        }
    }

    private static void tells(LeaseHouse house, int renewals) {
        for (int k = 0; k < renewals; k++) {
            check.due("note(9), a renewal", house.note(9), 3);
        }
        check.due("note(9) after that", house.note(9), LeaseHouse.NONE);
    }
}
