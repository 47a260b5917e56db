/** Promise 22, its boundary cases: a letter that there is not. */
public final class Promise22LetterTest {
    private static final int[] NO_PLACES = {-1, 6, 7, -6, 256, 65536, Check.LEAST, Check.LEAST + 1, Check.MOST};
    private static final Check check = new Check();

    public static void main(String[] args) {
        anEmptyTapeHasNoLetter();
        noSuchLetterIsNone();
        theOneBehindTheLastIsNone();
        theFirstAndTheLastAreTold();
        everyLetterIsToldAtEveryPlace();
        anErasedLetterIsNone();
        check.end();
    }

    private static void anEmptyTapeHasNoLetter() {
        for (int k = -1; k <= 6; k++) {
            isNone("", k);
        }
    }

    private static void noSuchLetterIsNone() {
        for (String tape : BusyHouse.NAMES) {
            for (int k : NO_PLACES) {
                isNone(tape, k);
            }
        }
    }

    private static void theOneBehindTheLastIsNone() {
        for (String tape : new String[] {"a", "zz", "aaa", "zzzz", "azaza", "zzzzzz", "aaaaaa"}) {
            isNone(tape, tape.length());
        }
    }

    private static void theFirstAndTheLastAreTold() {
        for (String tape : new String[] {"b", "ay", "abz", "zbca", "abcdz", "zabcda", "azzzzz", "zaaaaa"}) {
            check.nothingIsDone("letter(0) of " + tape, BusyHouse.with(tape), house -> house.letter(0),
                    tape.charAt(0));
            int last = tape.length() - 1;
            check.nothingIsDone("letter(" + last + ") of " + tape, BusyHouse.with(tape),
                    house -> house.letter(last), tape.charAt(last));
        }
    }

    private static void everyLetterIsToldAtEveryPlace() {
        for (int place = 0; place < 6; place++) {
            for (char letter = 'a'; letter <= 'z'; letter++) {
                for (char other : new char[] {'a', 'z'}) {
                    char[] name = {other, other, other, other, other, other};
                    name[place] = letter;
                    check.tapeIs(Check.houseWith(new String(name)), new String(name));
                }
            }
        }
    }

    private static void anErasedLetterIsNone() {
        LeaseHouse house = Check.houseWith("abc");
        house.erase();
        house.sign('z');
        check.tapeIs(house, "z");
        check.due("letter(2)", house.letter(2), LeaseHouse.NONE);
    }

    private static void isNone(String tape, int k) {
        check.nothingIsDone("letter(" + k + ") of " + tape, BusyHouse.with(tape), house -> house.letter(k),
                LeaseHouse.NONE);
    }
}
