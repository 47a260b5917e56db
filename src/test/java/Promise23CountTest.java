/** Promise 23, its boundary cases: numbers that count has no answer for, and no name. */
public final class Promise23CountTest {
    private static final int[] NO_COUNTS = {-1, 8, 9, -2, -8, 256, 65536, Check.LEAST, Check.LEAST + 1, Check.MOST};
    private static final Check check = new Check();

    public static void main(String[] args) {
        othersAreRefused();
        othersAreRefusedWithoutAName();
        changesWithoutANameAre0();
        theOtherCountsNeedNoName();
        changesAreOfTheName();
        countsGoBackTo0();
        theFullestCountsAreTold();
        check.end();
    }

    private static void othersAreRefused() {
        for (int what : NO_COUNTS) {
            check.nothingIsDone("count(" + what + ")", BusyHouse.with("a"), house -> house.count(what),
                    LeaseHouse.REFUSED);
        }
    }

    private static void othersAreRefusedWithoutAName() {
        for (int what : NO_COUNTS) {
            check.nothingIsDone("count(" + what + ") without a name", BusyHouse.with(""),
                    house -> house.count(what), LeaseHouse.REFUSED);
            check.nothingIsDone("count(" + what + ") in a new house", () -> new LeaseHouse(0),
                    house -> house.count(what), LeaseHouse.REFUSED);
        }
    }

    private static void changesWithoutANameAre0() {
        check.nothingIsDone("count(6) without a name", BusyHouse.with(""), house -> house.count(6), 0);
    }

    private static void theOtherCountsNeedNoName() {
        int[] counts = {BusyHouse.NOW, 3, 6, 5, 4, 4, 0, 13};
        for (int k = 0; k < counts.length; k++) {
            int what = k;
            check.nothingIsDone("count(" + what + ") without a name", BusyHouse.with(""),
                    house -> house.count(what), counts[what]);
        }
    }

    private static void changesAreOfTheName() {
        int[] changes = {5, 1, 4, 1, 0};
        for (int k = 0; k < changes.length; k++) {
            check.nothingIsDone("count(6) of " + BusyHouse.NAMES[k], BusyHouse.with(BusyHouse.NAMES[k]),
                    house -> house.count(6), changes[k]);
        }
        check.nothingIsDone("count(6) of aa", BusyHouse.with("aa"), house -> house.count(6), 0);
    }

    private static void countsGoBackTo0() {
        LeaseHouse house = Check.houseWith("c");
        house.watch(1);
        house.want(1, 5);
        house.want(2, 5);
        house.job(1, 0);
        house.leave(2);
        house.free(1);
        house.cancel();
        house.watch(1);
        house.note(1);
        house.note(1);
        int[] counts = {0, 0, 0, 0, 0, 0, 2, 0};
        for (int what = 0; what < counts.length; what++) {
            check.due("count(" + what + ")", house.count(what), counts[what]);
        }
    }

    private static void theFullestCountsAreTold() {
        LeaseHouse house = new LeaseHouse(0);
        for (char letter = 'a'; letter <= 'z'; letter++) {
            Check.write(house, String.valueOf(letter));
            for (int client = 0; client < 7; client++) {
                house.want(client, 100);
            }
            house.watch(letter % 16);
            house.job(letter, 0);
            house.ask();
        }
        for (int k = 0; k < 6; k++) {
            house.job(k, 0);
        }
        house.tick(60);
        int[] counts = {60, 26, 26 * 5, 30, 4, 26, 1, 0};
        for (int what = 0; what < counts.length; what++) {
            check.due("count(" + what + ")", house.count(what), counts[what]);
        }
    }
}
