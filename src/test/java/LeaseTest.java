/** Promises 4 (want), 5 (free), 6 (renew), 7 (leave), 9 (holder), 10 (left) and 11 (waiting). */
public final class LeaseTest {
    private static final int[] NO_CLIENTS = {-1, 16, -2, -3, 17, 32, Integer.MIN_VALUE, Integer.MAX_VALUE};
    private static final int[] NO_LEASE_TIMES = {0, 101, -1, Integer.MIN_VALUE, Integer.MAX_VALUE};
    private static final Check check = new Check();

    public static void main(String[] args) {
        wantLendsWhatIsFree();
        wantPutsOthersInTheRow();
        wantRefusesWrongInputs();
        leasesOfOneNameAreNotThoseOfAnother();
        freeGivesToTheFirstWhoWaits();
        freeRefusesOthers();
        renewSetsTheTimeAnew();
        renewRefusesOthers();
        leaveTakesOutOfTheRow();
        leftCountsDown();
        waitingHasAnEnd();
        check.end();
    }

    private static void wantLendsWhatIsFree() {
        for (int client = 0; client < 16; client++) {
            LeaseHouse house = Check.houseWith("a");
            check.due("want(" + client + ", 1)", house.want(client, 1), 0);
            check.due("holder()", house.holder(), client);
            check.due("left()", house.left(), 1);
            check.due("a lease began: changes", house.count(6), 1);
        }
        LeaseHouse house = Check.houseWith("a");
        check.due("want(0, 100)", house.want(0, 100), 0);
        check.due("left()", house.left(), 100);
        check.due("want by its holder", house.want(0, 3), LeaseHouse.NONE);
        check.due("left() as before", house.left(), 100);
        check.due("changes as before", house.count(6), 1);
    }

    private static void wantPutsOthersInTheRow() {
        LeaseHouse house = fullRow();
        check.due("want as the sixth", house.want(6, 1), LeaseHouse.FULL);
        check.due("want by one who waits, in a full row", house.want(5, 1), LeaseHouse.NONE);
        check.due("want by the holder, with a full row", house.want(0, 1), LeaseHouse.NONE);
        check.due("all who wait", house.count(2), 5);
        check.due("to wait is no change", house.count(6), 1);
        house.leave(3);
        check.due("want when one has left", house.want(6, 1), 5);
        check.due("the last of the row", house.waiting(4), 6);
        check.due("the one before", house.waiting(3), 5);
    }

    private static void wantRefusesWrongInputs() {
        LeaseHouse house = Check.houseWith("a");
        for (int client : NO_CLIENTS) {
            check.due("want by " + client, house.want(client, 5), LeaseHouse.REFUSED);
        }
        for (int ticks : NO_LEASE_TIMES) {
            check.due("want for " + ticks, house.want(0, ticks), LeaseHouse.REFUSED);
        }
        check.due("no lease came of that", house.count(1), 0);
        house.want(0, 5);
        for (int client : NO_CLIENTS) {
            check.due("want of a lent name by " + client, house.want(client, 5), LeaseHouse.REFUSED);
        }
        for (int ticks : NO_LEASE_TIMES) {
            check.due("want of a lent name for " + ticks, house.want(1, ticks), LeaseHouse.REFUSED);
            check.due("want by the holder for " + ticks, house.want(0, ticks), LeaseHouse.REFUSED);
        }
        check.due("nobody waits by that", house.count(2), 0);
        house.erase();
        check.due("want without a name", house.want(0, 5), LeaseHouse.REFUSED);
    }

    private static void leasesOfOneNameAreNotThoseOfAnother() {
        LeaseHouse house = new LeaseHouse(0);
        String[] names = {"a", "aa", "z", "az", "b", "ba", "aaa", "zzzzzz", "aaaaaa"};
        for (int client = 0; client < names.length; client++) {
            Check.write(house, names[client]);
            check.due("holder() of " + names[client], house.holder(), LeaseHouse.NONE);
            check.due("want of " + names[client], house.want(client, 10 + client), 0);
        }
        for (int client = 0; client < names.length; client++) {
            Check.write(house, names[client]);
            check.due("holder() of " + names[client], house.holder(), client);
            check.due("left() of " + names[client], house.left(), 10 + client);
        }
        check.due("one client holds several names", house.want(0, 5), 1);
        Check.write(house, "a");
        check.due("and waits for none of its own", house.want(0, 5), LeaseHouse.NONE);
    }

    private static void freeGivesToTheFirstWhoWaits() {
        LeaseHouse house = fullRow();
        house.tick(1);
        for (int client = 0; client < 5; client++) {
            check.due("free(" + client + ")", house.free(client), client + 1);
            check.due("holder()", house.holder(), client + 1);
            check.due("left() is what was wanted, from now on", house.left(), 11 + client);
            check.due("all who wait", house.count(2), 4 - client);
            check.due("who waits first", house.waiting(0), client == 4 ? LeaseHouse.NONE : client + 2);
            check.due("changes", house.count(6), client + 2);
        }
        check.due("free of the last", house.free(5), LeaseHouse.NONE);
        check.due("holder()", house.holder(), LeaseHouse.NONE);
        check.due("left()", house.left(), LeaseHouse.NONE);
        check.due("leases", house.count(1), 0);
        check.due("changes", house.count(6), 7);
        check.due("free again", house.free(5), LeaseHouse.REFUSED);
        check.due("want of what is free again", house.want(5, 2), 0);
    }

    private static void freeRefusesOthers() {
        LeaseHouse house = Check.houseWith("a");
        check.due("free of a name never lent", house.free(0), LeaseHouse.REFUSED);
        house.want(0, 5);
        house.want(1, 5);
        for (int client = 1; client < 16; client++) {
            check.due("free(" + client + ")", house.free(client), LeaseHouse.REFUSED);
        }
        for (int client : NO_CLIENTS) {
            check.due("free(" + client + ")", house.free(client), LeaseHouse.REFUSED);
        }
        check.due("holder() as before", house.holder(), 0);
        Check.write(house, "b");
        check.due("free of another name", house.free(0), LeaseHouse.REFUSED);
        house.erase();
        check.due("free without a name", house.free(0), LeaseHouse.REFUSED);
        Check.write(house, "a");
        house.leave(1);
        house.free(0);
        for (int client : NO_CLIENTS) {
            check.due("free(" + client + ") of what nobody holds", house.free(client), LeaseHouse.REFUSED);
        }
        check.due("changes", house.count(6), 2);
    }

    private static void renewSetsTheTimeAnew() {
        LeaseHouse house = Check.houseWith("a");
        house.want(3, 10);
        check.due("want behind it", house.want(4, 10), 1);
        house.tick(4);
        check.due("renew(3, 100)", house.renew(3, 100), 104);
        check.due("left()", house.left(), 100);
        check.due("renew(3, 1), which is less", house.renew(3, 1), 5);
        check.due("left()", house.left(), 1);
        check.due("holder()", house.holder(), 3);
        check.due("who waits goes on to", house.waiting(0), 4);
        check.due("changes", house.count(6), 3);
        check.due("tick(1)", house.tick(1), 1);
        check.due("holder()", house.holder(), 4);
        house.renew(4, 20);
        check.due("the old time is no more", house.tick(19), 0);
        check.due("but the new one is", house.tick(1), 1);
    }

    private static void renewRefusesOthers() {
        LeaseHouse house = Check.houseWith("a");
        check.due("renew of a name never lent", house.renew(3, 5), LeaseHouse.REFUSED);
        house.want(3, 10);
        house.want(4, 10);
        check.due("renew by one who waits", house.renew(4, 5), LeaseHouse.REFUSED);
        check.due("renew by another", house.renew(5, 5), LeaseHouse.REFUSED);
        for (int client : NO_CLIENTS) {
            check.due("renew by " + client, house.renew(client, 5), LeaseHouse.REFUSED);
        }
        for (int ticks : NO_LEASE_TIMES) {
            check.due("renew for " + ticks, house.renew(3, ticks), LeaseHouse.REFUSED);
        }
        check.due("left() as before", house.left(), 10);
        check.due("changes as before", house.count(6), 1);
        house.erase();
        check.due("renew without a name", house.renew(3, 5), LeaseHouse.REFUSED);
        Check.write(house, "a");
        house.leave(4);
        house.free(3);
        check.due("renew of what is free again", house.renew(3, 5), LeaseHouse.REFUSED);
        for (int client : NO_CLIENTS) {
            check.due("renew by " + client + " of what nobody holds", house.renew(client, 5), LeaseHouse.REFUSED);
        }
        check.due("leases", house.count(1), 0);
    }

    private static void leaveTakesOutOfTheRow() {
        LeaseHouse house = fullRow();
        check.due("leave(3)", house.leave(3), 4);
        check.due("leave(3) again", house.leave(3), LeaseHouse.NONE);
        check.due("leave by the holder", house.leave(0), LeaseHouse.NONE);
        check.due("leave by another", house.leave(9), LeaseHouse.NONE);
        int[] row = {1, 2, 4, 5};
        for (int k = 0; k < row.length; k++) {
            check.due("waiting(" + k + ")", house.waiting(k), row[k]);
        }
        check.due("leave of the first", house.leave(1), 3);
        check.due("leave of the last", house.leave(5), 2);
        check.due("free(0)", house.free(0), 2);
        check.due("left() is what client 2 wanted", house.left(), 12);
        check.due("leave(4)", house.leave(4), 0);
        check.due("to leave is no change", house.count(6), 2);
        for (int client : NO_CLIENTS) {
            check.due("leave(" + client + ")", house.leave(client), LeaseHouse.REFUSED);
        }
        Check.write(house, "b");
        check.due("leave of a name never lent", house.leave(4), LeaseHouse.NONE);
        house.erase();
        check.due("leave without a name", house.leave(4), LeaseHouse.REFUSED);
    }

    private static void leftCountsDown() {
        LeaseHouse house = Check.houseWith("a");
        house.tick(7);
        house.want(1, 3);
        check.due("left()", house.left(), 3);
        house.tick(2);
        check.due("left()", house.left(), 1);
        house.tick(1);
        check.due("left() at its end", house.left(), LeaseHouse.NONE);
        check.due("holder() at its end", house.holder(), LeaseHouse.NONE);
        house.erase();
        check.due("left() without a name", house.left(), LeaseHouse.REFUSED);
        check.due("holder() without a name", house.holder(), LeaseHouse.REFUSED);
    }

    private static void waitingHasAnEnd() {
        LeaseHouse house = fullRow();
        for (int k = 0; k < 5; k++) {
            check.due("waiting(" + k + ")", house.waiting(k), k + 1);
        }
        int[] nowhere = {5, 6, -1, Integer.MIN_VALUE, Integer.MAX_VALUE};
        for (int k : nowhere) {
            check.due("waiting(" + k + ")", house.waiting(k), LeaseHouse.NONE);
        }
        Check.write(house, "ab");
        check.due("waiting(0) for another name", house.waiting(0), LeaseHouse.NONE);
        house.erase();
        check.due("waiting(0) without a name", house.waiting(0), LeaseHouse.REFUSED);
    }

    /** Client 0 holds "a" for 50 ticks; clients 1 to 5 wait, each for 10 ticks and its own number. */
    private static LeaseHouse fullRow() {
        LeaseHouse house = Check.houseWith("a");
        check.due("want(0, 50)", house.want(0, 50), 0);
        for (int client = 1; client <= 5; client++) {
            check.due("want(" + client + ", ..)", house.want(client, 10 + client), client);
        }
        return house;
    }
}
