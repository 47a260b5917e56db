/** Promise 17, its boundary cases: no name, a name that went, and that it is no use. */
public final class Promise17KnownTest {
    private static final Check check = new Check();

    public static void main(String[] args) {
        withoutANameItIsFalse();
        aNameNeverAskedForIsNot();
        aNameInTheCacheIs();
        aNameThatWentIsNot();
        aPrefixIsAnotherName();
        itIsNoUse();
        check.end();
    }

    private static void withoutANameItIsFalse() {
        check.nothingIsDone("known() without a name", BusyHouse.with(""), Promise17KnownTest::known, 0);
        check.nothingIsDone("known() in a new house", () -> new LeaseHouse(0), Promise17KnownTest::known, 0);
    }

    private static void aNameNeverAskedForIsNot() {
        check.nothingIsDone("known()", BusyHouse.with("z"), Promise17KnownTest::known, 0);
        LeaseHouse house = Check.houseWith("c");
        house.want(1, 5);
        house.watch(1);
        house.job(1, 1);
        check.due("known() of a name lent and watched", house.known(), false);
    }

    private static void aNameInTheCacheIs() {
        for (String name : new String[] {"a", "b", "ab", "zzzzzz"}) {
            check.nothingIsDone("known() of " + name, BusyHouse.with(name), Promise17KnownTest::known, 1);
        }
    }

    private static void aNameThatWentIsNot() {
        LeaseHouse house = BusyHouse.make(0, "q");
        house.ask();
        Check.write(house, "ab");
        check.due("known() of the one used longest ago", house.known(), false);
        Check.write(house, "zzzzzz");
        check.due("known() of the next", house.known(), true);
    }

    private static void aPrefixIsAnotherName() {
        for (String name : new String[] {"aa", "zzzzz", "bb", "abc"}) {
            check.nothingIsDone("known() of " + name, BusyHouse.with(name), Promise17KnownTest::known, 0);
        }
    }

    private static void itIsNoUse() {
        LeaseHouse house = BusyHouse.make(0, "ab");
        check.due("known() of the one used longest ago", house.known(), true);
        Check.write(house, "q");
        house.ask();
        Check.write(house, "ab");
        check.due("known() when another came", house.known(), false);
    }

    private static long known(LeaseHouse house) {
        return house.known() ? 1 : 0;
    }
}
