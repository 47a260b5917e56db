import java.util.Arrays;
import java.util.Comparator;

/** "Terms": the sentences that belong to every promise that uses their words, a method for each. */
public final class TermsTest {
    private static final String[] SOME_NAMES = {
        "a", "b", "y", "z", "aa", "ab", "az", "ba", "bz", "zz", "aaa", "abz", "zza", "aaaa", "mnop", "azzzz",
        "zaaaa", "aaaaaa", "aaaaab", "lastly", "zzzzzy", "zzzzzz"};
    private static final Check check = new Check();

    public static void main(String[] args) {
        namesHave1To6SmallLetters();
        theTapeIsEmptyAtFirst();
        otherCallsLeaveTheTape();
        callsThatFindNothingLeaveTheTape();
        shorterNamesComeFirstElseAsTexts();
        clientsAre0To15();
        nowIs0AtFirst();
        aCallThatNeedsANameIsRefusedWithoutOne();
        knownIsFalseAndCountIs0WithoutAName();
        theOtherCallsNeedNoName();
        clientsThatThereAreNotAreRefused();
        everyNameHasItsOwnLease();
        everyNameHasItsOwnRow();
        aLeaseThatEndsWithNobodyWaitingIsNoMore();
        aLeaseThatEndsGoesToTheFirstOneWaiting();
        sinceIsOfEachNameAndEachTime();
        waitsAreOfAllNames();
        whoLeftBeforeHasNotWaited();
        jobsHaveTheirTurn();
        changesAreOfFourKinds();
        theCacheKeepsTheFourUsedLast();
        eachChangeIsToldToAllWhoWatch();
        aClientHas8NotesAndTheOldestGoes();
        check.end();
    }

    private static void namesHave1To6SmallLetters() {
        for (String name : SOME_NAMES) {
            LeaseHouse house = Check.houseWith(name);
            check.tapeIs(house, name);
            check.due("want of " + name, house.want(3, 9), 0);
            house.erase();
            check.due("first()", house.first(), 3);
            check.tapeIs(house, name);
        }
    }

    private static void theTapeIsEmptyAtFirst() {
        check.tapeIs(new LeaseHouse(0), "");
    }

    private static void otherCallsLeaveTheTape() {
        for (String tape : BusyHouse.NAMES) {
            for (Calls.Call call : Calls.THAT_NEED_A_NAME) {
                theTapeStays(call, tape);
            }
            for (Calls.Call call : Calls.THAT_ANSWER_0_WITHOUT_A_NAME) {
                theTapeStays(call, tape);
            }
            for (Calls.Call call : Calls.THAT_NEED_NO_NAME) {
                theTapeStays(call, tape);
            }
        }
    }

    private static void theTapeStays(Calls.Call call, String tape) {
        LeaseHouse house = BusyHouse.make(0, tape);
        call.done().applyAsLong(house);
        check.tapeIs(house, tape);
    }

    private static void callsThatFindNothingLeaveTheTape() {
        for (String tape : new String[] {"", "a", "zzzzzz"}) {
            LeaseHouse house = Check.houseWith(tape);
            check.due("first()", house.first(), LeaseHouse.NONE);
            check.due("work()", house.work(), 1L << 40);
            check.due("note(0)", house.note(0), LeaseHouse.NONE);
            check.due("note(16)", house.note(16), LeaseHouse.REFUSED);
            check.due("sign(123)", house.sign(123), LeaseHouse.REFUSED);
            check.tapeIs(house, tape);
        }
    }

    private static void shorterNamesComeFirstElseAsTexts() {
        String[] inOrder = SOME_NAMES.clone();
        Arrays.sort(inOrder, Comparator.comparingInt(String::length).thenComparing(Comparator.naturalOrder()));
        for (int one = 0; one < inOrder.length; one++) {
            for (int later = one + 1; later < inOrder.length; later++) {
                isFirst(inOrder[one], inOrder[one], inOrder[later]);
                isFirst(inOrder[one], inOrder[later], inOrder[one]);
            }
        }
    }

    private static void isFirst(String due, String... lent) {
        LeaseHouse house = new LeaseHouse(0);
        for (String name : lent) {
            Check.write(house, name);
            house.want(3, 9);
        }
        house.first();
        check.tapeIs(house, due);
    }

    private static void clientsAre0To15() {
        for (int client = 0; client < 16; client++) {
            LeaseHouse house = Check.houseWith("c");
            int other = 15 - client;
            check.due("watch(" + client + ")", house.watch(client), 1);
            check.due("want(" + client + ", 9)", house.want(client, 9), 0);
            check.due("holder()", house.holder(), client);
            check.due("want(" + other + ", 9)", house.want(other, 9), 1);
            check.due("waiting(0)", house.waiting(0), other);
            check.due("free(" + client + ")", house.free(client), other);
            check.due("note(" + client + ")", house.note(client), 1);
            check.due("note(" + client + ")", house.note(client), 2);
        }
    }

    private static void nowIs0AtFirst() {
        LeaseHouse house = Check.houseWith("c");
        check.due("count(0)", house.count(0), 0);
        check.due("ask()", house.ask(), 0);
        house.want(1, 7);
        check.due("renew(1, 9)", house.renew(1, 9), 9);
        house.job(5, 1);
        house.job(4, 0);
        check.due("work() of a job due at 0", house.work(), 4);
        check.due("work() of a job due at 1", house.work(), 1L << 40);
    }

    private static void aCallThatNeedsANameIsRefusedWithoutOne() {
        for (Calls.Call call : Calls.THAT_NEED_A_NAME) {
            check.nothingIsDone(call.text() + " without a name", BusyHouse.with(""), call.done(), LeaseHouse.REFUSED);
            check.nothingIsDone(call.text() + " in a new house", () -> new LeaseHouse(0), call.done(),
                    LeaseHouse.REFUSED);
        }
    }

    private static void knownIsFalseAndCountIs0WithoutAName() {
        for (Calls.Call call : Calls.THAT_ANSWER_0_WITHOUT_A_NAME) {
            check.nothingIsDone(call.text() + " without a name", BusyHouse.with(""), call.done(), 0);
            check.nothingIsDone(call.text() + " in a new house", () -> new LeaseHouse(0), call.done(), 0);
        }
    }

    private static void theOtherCallsNeedNoName() {
        for (Calls.Call call : Calls.THAT_NEED_NO_NAME) {
            long due = call.text().startsWith("letter") ? LeaseHouse.NONE
                    : call.done().applyAsLong(BusyHouse.make(0, "a"));
            check.due(call.text() + " without a name", call.done().applyAsLong(BusyHouse.make(0, "")), due);
        }
        check.due("sign('q')", BusyHouse.make(0, "").sign('q'), 1);
        check.due("erase()", BusyHouse.make(0, "").erase(), 0);
        check.due("first()", BusyHouse.make(0, "").first(), 1);
        check.due("work()", BusyHouse.make(0, "").work(), -1);
        check.due("note(7)", BusyHouse.make(0, "").note(7), BusyHouse.make(0, "a").note(7));
    }

    private static void clientsThatThereAreNotAreRefused() {
        for (int client : Check.NO_CLIENTS) {
            for (Calls.Call call : Calls.by(client)) {
                for (String tape : new String[] {"", "a", "ab", "z"}) {
                    check.nothingIsDone(call.text() + " with " + tape, BusyHouse.with(tape), call.done(),
                            LeaseHouse.REFUSED);
                }
            }
        }
    }

    private static void everyNameHasItsOwnLease() {
        LeaseHouse house = new LeaseHouse(0);
        for (int k = 0; k < SOME_NAMES.length; k++) {
            Check.write(house, SOME_NAMES[k]);
            check.due("leases", house.count(1), k);
            check.due("holder() of " + SOME_NAMES[k], house.holder(), LeaseHouse.NONE);
            house.want(k % 16, k + 30);
        }
        for (int k = 0; k < SOME_NAMES.length; k++) {
            Check.write(house, SOME_NAMES[k]);
            check.due("holder() of " + SOME_NAMES[k], house.holder(), k % 16);
            check.due("left() of " + SOME_NAMES[k], house.left(), k + 30);
        }
    }

    private static void everyNameHasItsOwnRow() {
        LeaseHouse house = new LeaseHouse(0);
        for (String name : new String[] {"a", "aa", "aaa"}) {
            Check.write(house, name);
            house.want(name.length(), 9);
            for (int k = 0; k < 5; k++) {
                check.due("want, the " + k + "-th in the row", house.want(4 + name.length() + k, 9), k + 1);
                check.due("want again", house.want(4 + name.length() + k, 9), LeaseHouse.NONE);
            }
            check.due("want with 5", house.want(15, 9), LeaseHouse.FULL);
        }
        check.due("all who wait", house.count(2), 15);
        Check.write(house, "aa");
        for (int k = 0; k < 5; k++) {
            check.due("waiting(" + k + ")", house.waiting(k), 6 + k);
        }
    }

    private static void aLeaseThatEndsWithNobodyWaitingIsNoMore() {
        LeaseHouse freed = Check.houseWith("c");
        freed.want(1, 9);
        check.due("free(1)", freed.free(1), LeaseHouse.NONE);
        LeaseHouse timed = Check.houseWith("c");
        timed.want(1, 9);
        check.due("tick(9)", timed.tick(9), 1);
        for (LeaseHouse house : new LeaseHouse[] {freed, timed}) {
            check.due("holder()", house.holder(), LeaseHouse.NONE);
            check.due("left()", house.left(), LeaseHouse.NONE);
            check.due("leases", house.count(1), 0);
            check.due("renew(1, 5)", house.renew(1, 5), LeaseHouse.REFUSED);
            check.due("tick(60)", house.tick(60), 0);
        }
    }

    private static void aLeaseThatEndsGoesToTheFirstOneWaiting() {
        LeaseHouse freed = rowOfTwo();
        freed.tick(8);
        check.due("free(1)", freed.free(1), 2);
        LeaseHouse timed = rowOfTwo();
        check.due("tick(9)", timed.tick(9), 1);
        for (LeaseHouse house : new LeaseHouse[] {freed, timed}) {
            check.due("holder()", house.holder(), 2);
            check.due("left(), from NOW on", house.left(), 20);
            check.due("who waits still", house.waiting(0), 3);
            check.due("who waits behind", house.waiting(1), LeaseHouse.NONE);
            check.due("leave(2), which waits no more", house.leave(2), LeaseHouse.NONE);
            check.due("leases", house.count(1), 1);
        }
    }

    /** Client 1 holds "c" for 9 ticks, 2 waits for 20 and 3 for 30 of them. */
    private static LeaseHouse rowOfTwo() {
        LeaseHouse house = Check.houseWith("c");
        house.want(1, 9);
        house.want(2, 20);
        house.want(3, 30);
        return house;
    }

    private static void sinceIsOfEachNameAndEachTime() {
        LeaseHouse house = Check.houseWith("a");
        house.want(1, 100);
        house.want(2, 100);
        house.tick(3);
        Check.write(house, "b");
        house.want(1, 100);
        house.want(2, 100);
        house.tick(4);
        house.free(1);
        check.due("waited for b", house.waited(100), 4);
        Check.write(house, "a");
        house.leave(2);
        house.want(2, 100);
        house.tick(5);
        house.free(1);
        check.due("waited for a, from the second time on", house.waited(100), 5);
        check.due("waits(0, 100)", house.waits(0, 100), 2);
    }

    private static void waitsAreOfAllNames() {
        LeaseHouse house = new LeaseHouse(0);
        for (String name : SOME_NAMES) {
            Check.write(house, name);
            house.want(1, 6);
            house.want(2, 1);
        }
        house.tick(6);
        check.due("waits(6, 7)", house.waits(6, 7), SOME_NAMES.length);
        check.due("waited(7)", house.waited(7), 6);
    }

    private static void whoLeftBeforeHasNotWaited() {
        LeaseHouse house = rowOfTwo();
        house.tick(5);
        house.leave(2);
        house.tick(60);
        check.due("waits(0, 100)", house.waits(0, 100), 1);
        check.due("waited(100)", house.waited(100), 9);
    }

    private static void jobsHaveTheirTurn() {
        LeaseHouse house = new LeaseHouse(0);
        check.due("jobs", house.count(3), 0);
        String[] names = {"a", "b", "c", "d", "e", "f"};
        int[] ranks = {2, 1, 1, -1, 1, 1};
        int[] dues = {0, 0, -1, 3, 0, -1};
        for (int k = 0; k < names.length; k++) {
            Check.write(house, names[k]);
            house.job(ranks[k], dues[k]);
        }
        check.due("work() before 3", house.work(), 1L << 40);
        house.tick(3);
        for (int k : new int[] {3, 2, 5, 1, 4, 0}) {
            check.due("work() of " + names[k], house.work(), ranks[k]);
            check.tapeIs(house, names[k]);
        }
        for (int k = 0; k < 30; k++) {
            check.due("job " + k, house.job(k, k), k + 1);
        }
        check.due("job with 30", house.job(0, 0), LeaseHouse.FULL);
    }

    private static void changesAreOfFourKinds() {
        LeaseHouse house = Check.houseWith("c");
        check.due("changes at first", house.count(6), 0);
        house.want(1, 9);
        check.due("changes when a lease began", house.count(6), 1);
        house.want(2, 9);
        house.want(3, 9);
        house.leave(3);
        check.due("changes when others came and left", house.count(6), 1);
        house.renew(1, 9);
        check.due("changes when it was renewed", house.count(6), 2);
        house.free(1);
        check.due("changes when one was STARTED", house.count(6), 3);
        house.tick(9);
        check.due("changes when it ended with nobody after", house.count(6), 4);
        house.want(2, 9);
        check.due("changes when one began again", house.count(6), 5);
        Check.write(house, "cc");
        check.due("changes of another name", house.count(6), 0);
    }

    private static void theCacheKeepsTheFourUsedLast() {
        LeaseHouse house = new LeaseHouse(0);
        for (String name : new String[] {"a", "b", "c", "d", "a", "e", "f"}) {
            Check.write(house, name);
            house.ask();
        }
        check.due("names in THE CACHE", house.count(4), 4);
        for (String name : new String[] {"a", "b", "c", "d", "e", "f"}) {
            Check.write(house, name);
            check.due("known() of " + name, house.known(), "adef".contains(name));
        }
    }

    private static void eachChangeIsToldToAllWhoWatch() {
        LeaseHouse house = rowOfTwo();
        int[] watchers = {15, 0, 7};
        for (int client : watchers) {
            house.watch(client);
        }
        house.renew(1, 5);
        house.free(1);
        house.leave(3);
        house.tick(20);
        house.want(9, 9);
        check.due("notes of all clients", house.count(7), 12);
        for (int client : watchers) {
            for (int kind : new int[] {3, 2, 4, 1}) {
                house.erase();
                check.due("note(" + client + ")", house.note(client), kind);
                check.tapeIs(house, "c");
            }
        }
        check.due("notes of all clients", house.count(7), 0);
    }

    private static void aClientHas8NotesAndTheOldestGoes() {
        LeaseHouse house = Check.houseWith("c");
        house.watch(4);
        house.want(1, 9);
        for (int k = 0; k < 7; k++) {
            house.renew(1, 9);
        }
        check.due("notes", house.count(7), 8);
        house.free(1);
        check.due("notes with one more", house.count(7), 8);
        for (int kind : new int[] {3, 3, 3, 3, 3, 3, 3, 4, LeaseHouse.NONE}) {
            check.due("note(4)", house.note(4), kind);
        }
    }
}
