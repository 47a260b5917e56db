/** Promise 1, its boundary cases: the sorts that there are not, and all that is empty at first. */
public final class Promise01NewObjectTest {
    private static final int[] NO_SORTS = {-1, 3, -2, 4, 256, 65536, Check.LEAST, Check.LEAST + 1, Check.MOST};
    private static final Check check = new Check();

    public static void main(String[] args) {
        sortsThatThereAreNotAreTakenFor0();
        sorts0To2AreOfNoMeaning();
        aNewObjectIsEmpty();
        aNewObjectKnowsNoName();
        aNewObjectHasNoNotes();
        check.end();
    }

    private static void sortsThatThereAreNotAreTakenFor0() {
        for (int sort : NO_SORTS) {
            sameAsSort0(sort);
        }
    }

    private static void sorts0To2AreOfNoMeaning() {
        sameAsSort0(0);
        sameAsSort0(1);
        sameAsSort0(2);
    }

    private static void sameAsSort0(int sort) {
        for (String tape : BusyHouse.NAMES) {
            check.same("sort " + sort, () -> BusyHouse.make(sort, tape), () -> BusyHouse.make(0, tape));
        }
        check.same("sort " + sort + ", new", () -> new LeaseHouse(sort), () -> new LeaseHouse(0));
    }

    private static void aNewObjectIsEmpty() {
        LeaseHouse house = new LeaseHouse(0);
        for (int what = 0; what <= 7; what++) {
            check.due("count(" + what + ")", house.count(what), 0);
        }
        check.due("letter(0)", house.letter(0), LeaseHouse.NONE);
        check.due("first()", house.first(), LeaseHouse.NONE);
        check.due("work()", house.work(), 1L << 40);
        check.due("waits(least, most)", house.waits(Check.LEAST, Check.MOST), 0);
        check.due("waited(most)", house.waited(Check.MOST), LeaseHouse.NONE);
        check.due("tick(60)", house.tick(60), 0);
        check.due("erase()", house.erase(), 0);
    }

    private static void aNewObjectKnowsNoName() {
        for (String name : BusyHouse.NAMES) {
            LeaseHouse house = Check.houseWith(name);
            check.due("holder()", house.holder(), LeaseHouse.NONE);
            check.due("left()", house.left(), LeaseHouse.NONE);
            check.due("waiting(0)", house.waiting(0), LeaseHouse.NONE);
            check.due("known()", house.known(), false);
            check.due("changes", house.count(6), 0);
            check.due("cancel()", house.cancel(), 0);
        }
    }

    private static void aNewObjectHasNoNotes() {
        LeaseHouse house = new LeaseHouse(0);
        for (int client = 0; client < 16; client++) {
            check.due("note(" + client + ")", house.note(client), LeaseHouse.NONE);
        }
    }
}
