import java.util.List;
import java.util.function.BiConsumer;
import java.util.function.Supplier;

/**
 * All that a house can be made to tell of its state, as a text. Most of it can only be had by
 * calls that change the house, so each part is asked of a house of its own.
 */
final class Told {
    private static final String[] NAMES = {"a", "b", "z", "aa", "ab", "zzzzzz"};
    private static final String[] UNASKED = {"q", "qa", "qb", "qc"};
    private static final long NO_WORK = 1L << 40;
    private static final List<BiConsumer<LeaseHouse, StringBuilder>> PARTS = List.of(
            Told::tape, Told::counts, Told::rows, Told::ends, Told::jobs, Told::numbers, Told::uses,
            Told::watchers, Told::notes, Told::waits);

    private Told() {
    }

    static String all(Supplier<LeaseHouse> made) {
        StringBuilder told = new StringBuilder();
        for (BiConsumer<LeaseHouse, StringBuilder> part : PARTS) {
            part.accept(made.get(), told.append("\n  "));
        }
        return told.toString();
    }

    private static void tape(LeaseHouse house, StringBuilder told) {
        told.append("tape ");
        for (int k = 0; k < 6 && house.letter(k) != LeaseHouse.NONE; k++) {
            told.append((char) house.letter(k));
        }
        told.append('.');
    }

    private static void counts(LeaseHouse house, StringBuilder told) {
        told.append("counts");
        for (int what = 0; what <= 7; what++) {
            told.append(' ').append(house.count(what));
        }
    }

    private static void rows(LeaseHouse house, StringBuilder told) {
        for (String name : NAMES) {
            Check.write(house, name);
            told.append("row ").append(name).append(" changes ").append(house.count(6));
            for (int k = 0; k < 6; k++) {
                int holder = house.holder();
                told.append(' ').append(holder).append(" has ").append(house.left());
                told.append(" then ").append(house.waiting(0));
                house.free(holder);
            }
            told.append("; ");
        }
        waits(house, told);
    }

    private static void ends(LeaseHouse house, StringBuilder told) {
        told.append("ends ");
        for (int k = 0; k < 20; k++) {
            int holder = house.first();
            told.append(holder).append(' ');
            tape(house, told);
            house.free(holder);
        }
    }

    private static void jobs(LeaseHouse house, StringBuilder told) {
        told.append("jobs ");
        for (String name : NAMES) {
            long rank = house.work();
            for (int k = 0; k < 30 && rank != NO_WORK; k++) {
                told.append(rank).append(' ');
                tape(house, told);
                rank = house.work();
            }
            Check.write(house, name);
            told.append(" cancel ").append(name).append(' ').append(house.cancel()).append(' ');
        }
    }

    private static void numbers(LeaseHouse house, StringBuilder told) {
        told.append("numbers");
        for (String name : NAMES) {
            Check.write(house, name);
            told.append(' ').append(name).append(' ').append(house.known() ? house.ask() : -1);
        }
    }

    /** Which name of THE CACHE goes, time after time, tells the order of their last uses. */
    private static void uses(LeaseHouse house, StringBuilder told) {
        told.append("uses");
        for (String unasked : UNASKED) {
            for (String name : NAMES) {
                Check.write(house, name);
                told.append(' ').append(house.known());
            }
            Check.write(house, unasked);
            house.ask();
        }
    }

    private static void watchers(LeaseHouse house, StringBuilder told) {
        told.append("watchers");
        for (String name : NAMES) {
            Check.write(house, name);
            told.append(' ').append(name);
            for (int client = 0; client < 16; client++) {
                told.append(' ').append(house.watch(client));
            }
        }
    }

    private static void notes(LeaseHouse house, StringBuilder told) {
        for (int client = 0; client < 16; client++) {
            told.append("notes of ").append(client).append(": ");
            int kind = house.note(client);
            for (int k = 0; k < 10 && kind != LeaseHouse.NONE; k++) {
                told.append(kind).append(' ');
                tape(house, told);
                kind = house.note(client);
            }
        }
    }

    private static void waits(LeaseHouse house, StringBuilder told) {
        told.append("waits");
        int ticks = house.waited(Integer.MAX_VALUE);
        for (int k = 0; k < 20 && ticks >= 0; k++) {
            told.append(' ').append(ticks).append(" x ").append(house.waits(ticks, ticks + 1));
            ticks = house.waited(ticks - 1);
        }
    }
}
