/** Promise 3, its boundary cases: an empty TAPE, and a full one. */
public final class Promise03EraseTest {
    private static final Check check = new Check();

    public static void main(String[] args) {
        anEmptyTapeHad0();
        anErasedTapeHas0();
        eachLengthIsTold();
        afterItTheTapeIsEmpty();
        onlyTheTapeIsChanged();
        check.end();
    }

    private static void anEmptyTapeHad0() {
        check.nothingIsDone("erase() of an empty tape", BusyHouse.with(""), LeaseHouse::erase, 0);
        check.nothingIsDone("erase() in a new house", () -> new LeaseHouse(0), LeaseHouse::erase, 0);
    }

    private static void anErasedTapeHas0() {
        LeaseHouse house = Check.houseWith("abc");
        house.erase();
        check.due("erase() again", house.erase(), 0);
    }

    private static void eachLengthIsTold() {
        for (String name : new String[] {"a", "zz", "aaa", "zzzz", "azaza", "zzzzzz", "aaaaaa", "z"}) {
            LeaseHouse house = Check.houseWith(name);
            check.due("erase() of " + name, house.erase(), name.length());
        }
    }

    private static void afterItTheTapeIsEmpty() {
        LeaseHouse house = Check.houseWith("zzzzzz");
        house.erase();
        check.tapeIs(house, "");
        check.due("holder()", house.holder(), LeaseHouse.REFUSED);
        check.due("sign", house.sign('b'), 1);
        check.tapeIs(house, "b");
    }

    private static void onlyTheTapeIsChanged() {
        for (String name : BusyHouse.NAMES) {
            check.same("erase() of " + name, () -> {
                LeaseHouse house = BusyHouse.make(0, name);
                house.erase();
                return house;
            }, BusyHouse.with(""));
        }
        LeaseHouse house = BusyHouse.make(0, "a");
        house.erase();
        int[] counts = {BusyHouse.NOW, 3, 6, 5, 4, 4, 0, 13};
        for (int what = 0; what < counts.length; what++) {
            check.due("count(" + what + ") after erase()", house.count(what), counts[what]);
        }
    }
}
