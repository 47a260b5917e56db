/** Promise 16, its boundary cases: no name, THE CACHE with 4, what a use is and what is none. */
public final class Promise16AskTest {
    private static final Check check = new Check();

    public static void main(String[] args) {
        withoutANameItIsRefused();
        aNewNameHas0();
        changesAndNowAreThoseOfTheFirstAsking();
        theFourthFits();
        with4TheOneUsedLongestAgoGoes();
        onlyOneGoes();
        comingInIsAUse();
        beingFoundIsAUse();
        findingTheOneUsedLastChangesNothing();
        foundWith4NoneGoes();
        whatCameBackHasANewNumber();
        otherCallsAreNoUse();
        numbersAreOfTheirNames();
        eachKindOfChangeCounts();
        onlyTheCacheIsChanged();
        check.end();
    }

    private static void withoutANameItIsRefused() {
        check.nothingIsDone("ask() without a name", BusyHouse.with(""), LeaseHouse::ask, LeaseHouse.REFUSED);
        check.nothingIsDone("ask() in a new house", () -> new LeaseHouse(0), LeaseHouse::ask, LeaseHouse.REFUSED);
    }

    private static void aNewNameHas0() {
        LeaseHouse house = Check.houseWith("c");
        check.due("ask()", house.ask(), 0);
        check.due("known()", house.known(), true);
        house.tick(5);
        check.due("ask() again", house.ask(), 0);
    }

    private static void changesAndNowAreThoseOfTheFirstAsking() {
        LeaseHouse house = Check.houseWith("c");
        house.want(1, 100);
        house.tick(60);
        check.due("ask()", house.ask(), 1060);
        house.renew(1, 100);
        house.tick(40);
        check.due("ask() later", house.ask(), 1060);
        check.due("changes", house.count(6), 2);
    }

    private static void theFourthFits() {
        LeaseHouse house = askAll("a", "b", "c", "d");
        check.due("names in the cache", house.count(4), 4);
        knownAre(house, "abcd", "e");
    }

    private static void with4TheOneUsedLongestAgoGoes() {
        LeaseHouse house = askAll("a", "b", "c", "d", "e");
        check.due("names in the cache", house.count(4), 4);
        knownAre(house, "bcde", "a");
    }

    private static void onlyOneGoes() {
        LeaseHouse house = askAll("a", "b", "c", "d", "e", "f", "g");
        check.due("names in the cache", house.count(4), 4);
        knownAre(house, "defg", "abc");
        askAlso(house, "h", "i", "j", "k", "l");
        knownAre(house, "ijkl", "abcdefgh");
    }

    private static void comingInIsAUse() {
        LeaseHouse house = askAll("d", "c", "b", "a", "e", "f", "g");
        knownAre(house, "aefg", "bcd");
    }

    private static void beingFoundIsAUse() {
        knownAre(askAll("a", "b", "c", "d", "a", "e"), "acde", "b");
        knownAre(askAll("a", "b", "c", "d", "b", "a", "e", "f"), "abef", "cd");
        knownAre(askAll("a", "b", "c", "d", "a", "b", "c", "e"), "abce", "d");
        knownAre(askAll("a", "b", "a", "c", "d", "e"), "acde", "b");
    }

    private static void findingTheOneUsedLastChangesNothing() {
        check.nothingIsDone("ask() of the name asked last", BusyHouse.with("b"), LeaseHouse::ask, 1007);
    }

    private static void foundWith4NoneGoes() {
        LeaseHouse house = askAll("a", "b", "c", "d");
        askAlso(house, "a", "b", "c", "d", "d", "b");
        check.due("names in the cache", house.count(4), 4);
        knownAre(house, "abcd", "e");
    }

    private static void whatCameBackHasANewNumber() {
        LeaseHouse house = BusyHouse.make(0, "q");
        check.due("ask() of a fifth name", house.ask(), BusyHouse.NOW);
        house.tick(1);
        Check.write(house, "ab");
        check.due("known() of the one that went", house.known(), false);
        check.due("ask()", house.ask(), 4000 + BusyHouse.NOW + 1);
    }

    private static void otherCallsAreNoUse() {
        LeaseHouse house = askAll("a", "b", "c", "d");
        Check.write(house, "a");
        house.want(1, 5);
        house.want(2, 5);
        house.watch(3);
        house.renew(1, 6);
        house.holder();
        house.left();
        house.waiting(0);
        house.count(6);
        house.known();
        house.job(1, 0);
        house.work();
        house.first();
        house.free(1);
        house.note(3);
        house.leave(1);
        askAlso(house, "e");
        knownAre(house, "bcde", "a");
    }

    private static void numbersAreOfTheirNames() {
        String[] names = {"a", "b", "ab", "zzzzzz"};
        int[] numbers = {5004, 1007, 4004, 4};
        for (int k = 0; k < names.length; k++) {
            LeaseHouse house = BusyHouse.make(0, names[k]);
            check.due("ask() of " + names[k], house.ask(), numbers[k]);
            check.due("ask() again", house.ask(), numbers[k]);
        }
        LeaseHouse house = BusyHouse.make(0, "aa");
        check.due("ask() of a name behind another", house.ask(), BusyHouse.NOW);
    }

    private static void eachKindOfChangeCounts() {
        for (int changes = 1; changes <= 4; changes++) {
            LeaseHouse house = Check.houseWith("c");
            house.want(1, 9);
            house.want(2, 9);
            if (changes >= 2) {
                house.renew(1, 9);
            }
            if (changes >= 3) {
                house.free(1);
            }
            if (changes >= 4) {
                house.free(2);
            }
            check.due("ask() after " + changes + " changes", house.ask(), 1000 * changes);
        }
    }

    private static void onlyTheCacheIsChanged() {
        LeaseHouse house = BusyHouse.make(0, "z");
        check.due("ask()", house.ask(), BusyHouse.NOW);
        check.tapeIs(house, "z");
        int[] counts = {BusyHouse.NOW, 3, 6, 5, 4, 4, 0, 13};
        for (int what = 0; what < counts.length; what++) {
            check.due("count(" + what + ")", house.count(what), counts[what]);
        }
        check.due("holder()", house.holder(), LeaseHouse.NONE);
        check.due("cancel()", house.cancel(), 0);
    }

    private static LeaseHouse askAll(String... names) {
        LeaseHouse house = new LeaseHouse(0);
        askAlso(house, names);
        return house;
    }

    private static void askAlso(LeaseHouse house, String... names) {
        for (String name : names) {
            Check.write(house, name);
            house.ask();
        }
    }

    /** Each letter is a name. */
    private static void knownAre(LeaseHouse house, String known, String unknown) {
        for (String name : known.split("")) {
            Check.write(house, name);
            check.due("known() of " + name, house.known(), true);
        }
        for (String name : unknown.split("")) {
            Check.write(house, name);
            check.due("known() of " + name, house.known(), false);
        }
    }
}
