import java.lang.reflect.Method;
import java.util.ArrayList;
import java.util.Arrays;
import java.util.List;

/** All promises: long mixed runs of calls, each answered as the model of the document answers it. */
public final class ModelTest {
    private static final int RUNS = 3000;
    private static final int CALLS = 512;
    private static final String[] METHODS = {
        "sign", "erase", "want", "free", "renew", "leave", "tick", "holder", "left", "waiting", "first",
        "job", "work", "cancel", "ask", "known", "watch", "note", "waits", "waited", "letter", "count"};
    private static final Method[] OF_HOUSE = methodsOf(LeaseHouse.class);
    private static final Method[] OF_MODEL = methodsOf(HouseModel.class);

    // How often each method is called, in the order of METHODS: a row for each kind of run.
    private static final int[][] OFTEN = {
        {20, 8, 20, 6, 5, 4, 6, 4, 4, 5, 4, 5, 5, 1, 5, 4, 4, 6, 4, 4, 5, 8},
        {10, 4, 40, 4, 5, 3, 3, 4, 4, 8, 4, 0, 0, 0, 2, 1, 6, 12, 6, 6, 4, 8},
        {12, 6, 4, 2, 1, 1, 4, 1, 1, 1, 1, 40, 12, 1, 8, 4, 1, 2, 1, 1, 6, 6},
        {10, 10, 8, 3, 3, 1, 2, 1, 1, 1, 1, 0, 0, 0, 30, 20, 1, 4, 1, 1, 6, 6}};
    private static final String[] ALPHABETS = {"ab", "abz", "abcdefg", "abcdefghijklmnopqrstuvwxyz"};
    private static final int[] EDGES = {
        -3, -2, -1, 0, 1, 2, 5, 6, 7, 8, 15, 16, 59, 60, 61, 96, 99, 100, 101, 123,
        Integer.MIN_VALUE, Integer.MAX_VALUE};

    private static long state = 20261115L;

    public static void main(String[] args) throws ReflectiveOperationException {
        int wrong = 0;
        for (int run = 0; run < RUNS; run++) {
            wrong += compare(run) ? 0 : 1;
        }
        System.out.println(RUNS + " runs of " + CALLS + " calls, " + wrong + " of them wrong");
        if (wrong != 0) {
            System.exit(1);
        }
    }

    private static boolean compare(int run) throws ReflectiveOperationException {
        LeaseHouse house = new LeaseHouse(run % 5 - 1);
        HouseModel model = new HouseModel();
        int[] often = OFTEN[run % OFTEN.length];
        String alphabet = ALPHABETS[below(ALPHABETS.length)];
        List<String> calls = new ArrayList<>();
        for (int k = 0; k < CALLS; k++) {
            int method = choose(often);
            int one = firstArgument(METHODS[method], alphabet);
            int two = secondArgument(METHODS[method]);
            long got = call(house, OF_HOUSE[method], one, two);
            long due = call(model, OF_MODEL[method], one, two);
            calls.add(METHODS[method] + "(" + one + ", " + two + ") answered " + got);
            if (got != due) {
                System.out.println("run " + run + ", due at the end is " + due + ": " + calls);
                return false;
            }
        }
        return true;
    }

    private static int below(int bound) {
        state = state * 6364136223846793005L + 1442695040888963407L;
        return (int) ((state >>> 33) % bound);
    }

    private static int choose(int[] often) {
        int all = 0;
        for (int each : often) {
            all += each;
        }
        int left = below(all);
        int method = 0;
        while (left >= often[method]) {
            left -= often[method];
            method++;
        }
        return method;
    }

    private static int firstArgument(String method, String alphabet) {
        if (below(25) == 0) {
            return EDGES[below(EDGES.length)];
        }
        return switch (method) {
            case "sign" -> alphabet.charAt(below(alphabet.length()));
            case "tick" -> below(3) == 0 ? below(61) : below(5);
            case "job" -> below(9) - 4;
            case "waits" -> below(40) - 1;
            case "waited" -> below(60) - 2;
            case "waiting", "letter" -> below(8) - 1;
            case "count" -> below(9);
            default -> below(2) == 0 ? below(16) : below(7);
        };
    }

    private static int secondArgument(String method) {
        if (below(25) == 0) {
            return EDGES[below(EDGES.length)];
        }
        return switch (method) {
            case "job" -> below(300) - 20;
            case "waits" -> below(80);
            default -> below(4) == 0 ? below(100) + 1 : below(12) + 1;
        };
    }

    private static Method[] methodsOf(Class<?> type) {
        Method[] found = new Method[METHODS.length];
        for (Method method : type.getDeclaredMethods()) {
            int at = Arrays.asList(METHODS).indexOf(method.getName());
            if (at >= 0) {
                found[at] = method;
            }
        }
        return found;
    }

    private static long call(Object target, Method method, int one, int two) throws ReflectiveOperationException {
        Object answer = switch (method.getParameterCount()) {
            case 0 -> method.invoke(target);
            case 1 -> method.invoke(target, one);
            default -> method.invoke(target, one, two);
        };
        return answer instanceof Boolean yes ? (yes ? 1 : 0) : ((Number) answer).longValue();
    }
}
