/** Promise 23: count. */
public final class CountTest {
    private static final Check check = new Check();

    public static void main(String[] args) {
        eachCountIsItsOwn();
        othersAreRefused();
        changesAreOfTheName();
        rowsAndLeasesOfAllNamesAreCounted();
        check.end();
    }

    private static void eachCountIsItsOwn() {
        LeaseHouse house = new LeaseHouse(0);
        Check.write(house, "b");
        house.watch(1);
        house.watch(2);
        Check.write(house, "c");
        house.watch(3);
        Check.write(house, "a");
        house.watch(1);
        house.want(0, 50);
        for (int client = 1; client <= 5; client++) {
            house.want(client, 9);
        }
        for (int k = 0; k < 6; k++) {
            house.job(k, 0);
        }
        house.ask();
        house.renew(0, 50);
        Check.write(house, "b");
        house.ask();
        house.want(9, 50);
        house.tick(11);
        Check.write(house, "a");
        int[] due = {11, 2, 5, 6, 2, 3, 2, 4};
        for (int what = 0; what < due.length; what++) {
            check.due("count(" + what + ")", house.count(what), due[what]);
        }
        house.erase();
        due[6] = 0;
        for (int what = 0; what < due.length; what++) {
            check.due("count(" + what + ") without a name", house.count(what), due[what]);
        }
    }

    private static void othersAreRefused() {
        LeaseHouse house = new LeaseHouse(0);
        int[] others = {8, -1, 9, 256, Integer.MIN_VALUE, Integer.MAX_VALUE};
        for (int what : others) {
            check.due("count(" + what + ") without a name", house.count(what), LeaseHouse.REFUSED);
        }
        Check.write(house, "a");
        for (int what : others) {
            check.due("count(" + what + ")", house.count(what), LeaseHouse.REFUSED);
        }
    }

    private static void changesAreOfTheName() {
        LeaseHouse house = Check.houseWith("a");
        house.want(0, 5);
        house.free(0);
        house.want(0, 5);
        check.due("changes of a", house.count(6), 3);
        Check.write(house, "b");
        check.due("changes of b", house.count(6), 0);
        house.want(0, 5);
        check.due("changes of b", house.count(6), 1);
        house.tick(5);
        check.due("changes of b", house.count(6), 2);
        Check.write(house, "a");
        check.due("changes of a", house.count(6), 4);
        Check.write(house, "aa");
        check.due("changes of aa", house.count(6), 0);
    }

    private static void rowsAndLeasesOfAllNamesAreCounted() {
        LeaseHouse house = new LeaseHouse(0);
        int names = 0;
        for (char letter = 'a'; letter <= 'z'; letter++) {
            Check.write(house, String.valueOf(letter));
            house.want(0, 5);
            house.want(1, 100);
            house.watch(names % 16);
            names++;
        }
        check.due("leases", house.count(1), 26);
        check.due("all who wait", house.count(2), 26);
        check.due("names watched", house.count(5), 26);
        check.due("tick(5)", house.tick(5), 26);
        check.due("leases", house.count(1), 26);
        check.due("all who wait", house.count(2), 0);
        check.due("notes", house.count(7), 26);
    }
}
