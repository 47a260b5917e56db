/** Promise 11, its boundary cases: no name, no such place in the row. */
public final class Promise11WaitingTest {
    private static final int[] NO_PLACES = {5, 6, -1, 7, 256, 65536, Check.LEAST, Check.LEAST + 1, Check.MOST};
    private static final Check check = new Check();

    public static void main(String[] args) {
        withoutANameItIsRefused();
        withoutANameNoPlaceIsRefusedToo();
        noSuchPlaceIsNone();
        anEmptyRowHasNoPlace();
        thePlaceBehindTheLastIsNone();
        eachPlaceOfAFullRowIsTold();
        clients0And15AreTold();
        aRowMovesUp();
        check.end();
    }

    private static void withoutANameItIsRefused() {
        check.nothingIsDone("waiting(0) without a name", BusyHouse.with(""), house -> house.waiting(0),
                LeaseHouse.REFUSED);
    }

    private static void withoutANameNoPlaceIsRefusedToo() {
        for (int k : NO_PLACES) {
            check.nothingIsDone("waiting(" + k + ") without a name", BusyHouse.with(""), house -> house.waiting(k),
                    LeaseHouse.REFUSED);
        }
    }

    private static void noSuchPlaceIsNone() {
        for (String name : BusyHouse.NAMES) {
            for (int k : NO_PLACES) {
                check.nothingIsDone("waiting(" + k + ") for " + name, BusyHouse.with(name),
                        house -> house.waiting(k), LeaseHouse.NONE);
            }
        }
    }

    private static void anEmptyRowHasNoPlace() {
        for (String name : new String[] {"zzzzzz", "ab", "z"}) {
            check.nothingIsDone("waiting(0) for " + name, BusyHouse.with(name), house -> house.waiting(0),
                    LeaseHouse.NONE);
        }
    }

    private static void thePlaceBehindTheLastIsNone() {
        check.nothingIsDone("waiting(0)", BusyHouse.with("b"), house -> house.waiting(0), 2);
        check.nothingIsDone("waiting(1)", BusyHouse.with("b"), house -> house.waiting(1), LeaseHouse.NONE);
    }

    private static void eachPlaceOfAFullRowIsTold() {
        for (int place = 0; place < 5; place++) {
            int k = place;
            check.nothingIsDone("waiting(" + k + ")", BusyHouse.with("a"), house -> house.waiting(k), k + 1);
        }
    }

    private static void clients0And15AreTold() {
        LeaseHouse house = Check.houseWith("c");
        house.want(4, 9);
        house.want(15, 9);
        house.want(0, 9);
        check.due("waiting(0)", house.waiting(0), 15);
        check.due("waiting(1)", house.waiting(1), 0);
    }

    private static void aRowMovesUp() {
        LeaseHouse house = BusyHouse.make(0, "a");
        house.free(0);
        for (int k = 0; k < 4; k++) {
            check.due("waiting(" + k + ")", house.waiting(k), k + 2);
        }
        check.due("waiting(4)", house.waiting(4), LeaseHouse.NONE);
    }
}
