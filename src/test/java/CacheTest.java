/** Promises 16 (ask) and 17 (known). */
public final class CacheTest {
    private static final Check check = new Check();

    public static void main(String[] args) {
        askTellsChangesAndNow();
        theNumberStaysWhileItIsKept();
        theOneUsedLongestAgoGoes();
        knownIsNoUse();
        aNameIsNeeded();
        check.end();
    }

    private static void askTellsChangesAndNow() {
        LeaseHouse house = Check.houseWith("a");
        check.due("ask() of a new name", house.ask(), 0);
        Check.write(house, "b");
        house.want(1, 50);
        house.renew(1, 60);
        house.renew(1, 60);
        house.tick(7);
        check.due("ask() after three changes, at 7", house.ask(), 3007);
        Check.write(house, "c");
        check.due("ask() of another name", house.ask(), 7);
        check.due("names kept", house.count(4), 3);
        check.due("to ask is no change", house.count(6), 0);
    }

    private static void theNumberStaysWhileItIsKept() {
        LeaseHouse house = Check.houseWith("a");
        house.tick(2);
        check.due("ask()", house.ask(), 2);
        house.want(1, 5);
        house.tick(1);
        check.due("ask() later", house.ask(), 2);
        check.due("names kept", house.count(4), 1);
        for (String name : new String[] {"b", "c", "d", "e"}) {
            Check.write(house, name);
            house.ask();
        }
        Check.write(house, "a");
        check.due("known() when it had to go", house.known(), false);
        check.due("ask() anew", house.ask(), 1003);
    }

    private static void theOneUsedLongestAgoGoes() {
        LeaseHouse house = new LeaseHouse(0);
        for (String name : new String[] {"a", "b", "c", "d"}) {
            Check.write(house, name);
            house.ask();
        }
        check.due("names kept", house.count(4), 4);
        isKept(house, "a", true);
        house.ask();
        Check.write(house, "e");
        house.ask();
        check.due("names kept", house.count(4), 4);
        isKept(house, "a", true);
        isKept(house, "b", false);
        isKept(house, "c", true);
        isKept(house, "d", true);
        isKept(house, "e", true);
        Check.write(house, "d");
        house.ask();
        Check.write(house, "f");
        house.ask();
        isKept(house, "c", false);
        Check.write(house, "g");
        house.ask();
        isKept(house, "a", false);
        isKept(house, "d", true);
        isKept(house, "e", true);
        isKept(house, "f", true);
        isKept(house, "g", true);
    }

    private static void knownIsNoUse() {
        LeaseHouse house = new LeaseHouse(0);
        for (String name : new String[] {"a", "b", "c", "d"}) {
            Check.write(house, name);
            house.ask();
        }
        isKept(house, "a", true);
        isKept(house, "aa", false);
        check.due("known() keeps nothing", house.count(4), 4);
        Check.write(house, "e");
        house.ask();
        isKept(house, "a", false);
        isKept(house, "b", true);
    }

    private static void aNameIsNeeded() {
        LeaseHouse house = new LeaseHouse(0);
        check.due("ask() without a name", house.ask(), LeaseHouse.REFUSED);
        check.due("known() without a name", house.known(), false);
        check.due("names kept", house.count(4), 0);
        Check.write(house, "a");
        house.ask();
        house.erase();
        check.due("ask() without a name", house.ask(), LeaseHouse.REFUSED);
        check.due("known() without a name", house.known(), false);
        check.due("names kept", house.count(4), 1);
    }

    private static void isKept(LeaseHouse house, String name, boolean kept) {
        Check.write(house, name);
        check.due("known() of " + name, house.known(), kept);
    }
}
