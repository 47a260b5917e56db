/**
 * Rule 7 of LANGUAGE.md: no call throws or fails to end, also long after the 512th, when answers
 * are free. And the most names that 512 calls can bring are all kept.
 */
public final class EnduranceTest {
    private static final int[] WILD = {
        Integer.MIN_VALUE, Integer.MIN_VALUE + 1, -65536, -32, -3, -2, -1, 0, 1, 5, 6, 15, 16, 31, 32, 60, 61,
        97, 100, 101, 122, 123, 65536, Integer.MAX_VALUE - 1, Integer.MAX_VALUE};
    private static final Check check = new Check();

    public static void main(String[] args) {
        manyNamesAreKept();
        callsGoOnPastTheLastPromised();
        wildNumbersAreTaken();
        check.end();
    }

    private static void manyNamesAreKept() {
        LeaseHouse house = new LeaseHouse(0);
        int names = 0;
        // 38 rounds of 13 calls at most; from the 27th on, only names of two letters and more are new.
        for (int round = 0; round < 38; round++) {
            for (int depth = 0; depth < 6; depth++) {
                house.sign(depth == 0 ? 'a' + round % 26 : 'a' + round / 26);
                if (depth > 0 || round < 26) {
                    check.due("want of name " + names, house.want(names % 16, 100), 0);
                    names++;
                }
            }
            house.erase();
        }
        check.due("leases", house.count(1), names);
        check.due("none ends before", house.tick(60), 0);
        check.due("all end", house.tick(40), names);
        check.due("leases", house.count(1), 0);
    }

    private static void callsGoOnPastTheLastPromised() {
        LeaseHouse house = new LeaseHouse(0);
        for (int k = 0; k < 3000; k++) {
            int rest = k;
            house.erase();
            for (int letter = 0; letter < 6; letter++) {
                house.sign('a' + rest % 26);
                rest /= 26;
            }
            house.watch(k % 16);
            house.want(k % 16, 1);
            house.want((k + 1) % 16, 1);
            house.free(k % 16);
            house.ask();
            house.job(k, k);
            house.tick(k % 61);
        }
        check.due("work() is still answered", house.work() >= -1, true);
        check.due("count(7) is still answered", house.count(7) >= 0, true);
    }

    private static void wildNumbersAreTaken() {
        LeaseHouse house = Check.houseWith("ab");
        int calls = 0;
        for (int one : WILD) {
            for (int two : WILD) {
                callAll(house, one, two);
                calls++;
            }
        }
        check.due("rounds of calls", calls, WILD.length * WILD.length);
    }

    private static void callAll(LeaseHouse house, int one, int two) {
        house.sign(one);
        house.want(one, two);
        house.want(two, one);
        house.watch(one);
        house.renew(one, two);
        house.job(one, two);
        house.ask();
        house.tick(one);
        house.waiting(two);
        house.letter(two);
        house.waits(one, two);
        house.waited(two);
        house.count(one);
        house.free(one);
        house.leave(two);
        house.holder();
        house.left();
        house.first();
        house.known();
        house.note(one);
        house.work();
        if (one == two) {
            house.cancel();
            house.erase();
        }
    }
}
