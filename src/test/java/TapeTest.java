/** Promises 2 (sign), 3 (erase) and 22 (letter). */
public final class TapeTest {
    private static final Check check = new Check();

    public static void main(String[] args) {
        everyLetterIsTaken();
        othersAreRefused();
        sixLettersAreAllThereIsRoomFor();
        eraseEmptiesTheTape();
        lettersAreCountedFromTheLeft();
        check.end();
    }

    private static void everyLetterIsTaken() {
        LeaseHouse house = new LeaseHouse(0);
        for (char letter = 'a'; letter <= 'z'; letter++) {
            check.due("sign(" + letter + ")", house.sign(letter), 1);
            check.due("letter(0)", house.letter(0), letter);
            check.due("erase()", house.erase(), 1);
        }
        check.due("a", 'a', 97);
        check.due("z", 'z', 122);
    }

    private static void othersAreRefused() {
        LeaseHouse house = Check.houseWith("q");
        int[] others = {96, 123, 'A', 'Z', '0', 0, -1, 97 + 256, 97 + 65536, Integer.MIN_VALUE, Integer.MAX_VALUE};
        for (int other : others) {
            check.due("sign(" + other + ")", house.sign(other), LeaseHouse.REFUSED);
        }
        check.tapeIs(house, "q");
        Check.write(house, "qrstuv");
        check.due("sign(96) on a full tape", house.sign(96), LeaseHouse.REFUSED);
    }

    private static void sixLettersAreAllThereIsRoomFor() {
        String[] names = {"aaaaaa", "zzzzzz", "azazaz", "leased"};
        for (String name : names) {
            LeaseHouse house = new LeaseHouse(0);
            for (int k = 0; k < 6; k++) {
                check.due("sign of letter " + k, house.sign(name.charAt(k)), k + 1);
            }
            check.due("sign of a seventh letter", house.sign('a'), LeaseHouse.FULL);
            check.due("sign of a seventh letter", house.sign('z'), LeaseHouse.FULL);
            check.tapeIs(house, name);
            check.due("erase() of a full tape", house.erase(), 6);
            check.due("sign after that", house.sign('z'), 1);
        }
    }

    private static void eraseEmptiesTheTape() {
        LeaseHouse house = new LeaseHouse(0);
        check.due("erase() of nothing", house.erase(), 0);
        Check.write(house, "abc");
        check.due("erase()", house.erase(), 3);
        check.tapeIs(house, "");
        check.due("erase() again", house.erase(), 0);
    }

    private static void lettersAreCountedFromTheLeft() {
        LeaseHouse house = Check.houseWith("zaybxc");
        check.tapeIs(house, "zaybxc");
        check.due("letter(-1)", house.letter(-1), LeaseHouse.NONE);
        check.due("letter(7)", house.letter(7), LeaseHouse.NONE);
        check.due("letter(least)", house.letter(Integer.MIN_VALUE), LeaseHouse.NONE);
        check.due("letter(most)", house.letter(Integer.MAX_VALUE), LeaseHouse.NONE);
        check.tapeIs(house, "zaybxc");
    }
}
