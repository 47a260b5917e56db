/** Promise 2, its boundary cases: another letter, and a TAPE with 6. */
public final class Promise02SignTest {
    private static final int[] NO_LETTERS = {
        96, 123, 0, -1, 1, 26, 'A', 'Z', '0', ' ', 97 - 256, 97 + 256, 122 + 256, 97 + 65536, 97 - 65536, -97,
        Check.LEAST, Check.LEAST + 97, Check.MOST};
    private static final Check check = new Check();

    public static void main(String[] args) {
        theFirstAndTheLastLetterAreTaken();
        anotherLetterIsRefused();
        anotherLetterIsRefusedOnAnEmptyTape();
        anotherLetterIsRefusedOnATapeWith6();
        theSixthLetterIsTaken();
        aTapeWith6IsFull();
        aTapeThatBecameANameOf6IsFull();
        aTapeThatBecameANameGoesOn();
        onlyTheTapeIsChanged();
        check.end();
    }

    private static void theFirstAndTheLastLetterAreTaken() {
        LeaseHouse house = new LeaseHouse(0);
        check.due("sign(97)", house.sign(97), 1);
        check.due("sign(122)", house.sign(122), 2);
        check.tapeIs(house, "az");
    }

    private static void anotherLetterIsRefused() {
        for (int letter : NO_LETTERS) {
            check.nothingIsDone("sign(" + letter + ")", BusyHouse.with("ab"), house -> house.sign(letter),
                    LeaseHouse.REFUSED);
        }
    }

    private static void anotherLetterIsRefusedOnAnEmptyTape() {
        for (int letter : NO_LETTERS) {
            check.nothingIsDone("sign(" + letter + ") on an empty tape", BusyHouse.with(""),
                    house -> house.sign(letter), LeaseHouse.REFUSED);
        }
    }

    private static void anotherLetterIsRefusedOnATapeWith6() {
        for (int letter : NO_LETTERS) {
            check.nothingIsDone("sign(" + letter + ") on a full tape", BusyHouse.with("zzzzzz"),
                    house -> house.sign(letter), LeaseHouse.REFUSED);
        }
    }

    private static void theSixthLetterIsTaken() {
        LeaseHouse house = Check.houseWith("abcde");
        check.due("sign of the sixth letter", house.sign('z'), 6);
        check.tapeIs(house, "abcdez");
    }

    private static void aTapeWith6IsFull() {
        for (String six : new String[] {"zzzzzz", "aaaaaa", "azazaz"}) {
            for (char letter : new char[] {'a', 'm', 'z'}) {
                check.nothingIsDone("sign(" + letter + ") on " + six, BusyHouse.with(six),
                        house -> house.sign(letter), LeaseHouse.FULL);
            }
        }
    }

    private static void aTapeThatBecameANameOf6IsFull() {
        LeaseHouse house = Check.houseWith("lastly");
        house.want(0, 5);
        house.erase();
        house.first();
        check.due("sign when first() wrote six letters", house.sign('a'), LeaseHouse.FULL);
        check.tapeIs(house, "lastly");
    }

    private static void aTapeThatBecameANameGoesOn() {
        LeaseHouse house = Check.houseWith("ab");
        house.job(1, 0);
        Check.write(house, "zzzzzz");
        house.work();
        check.due("sign when work() wrote two letters", house.sign('c'), 3);
        check.tapeIs(house, "abc");
    }

    private static void onlyTheTapeIsChanged() {
        check.same("sign", () -> {
            LeaseHouse house = BusyHouse.make(0, "a");
            house.sign('b');
            Check.write(house, "b");
            return house;
        }, BusyHouse.with("b"));
    }
}
