import java.util.ArrayDeque;
import java.util.ArrayList;
import java.util.Comparator;
import java.util.LinkedHashMap;
import java.util.LinkedHashSet;
import java.util.List;
import java.util.Map;
import java.util.TreeMap;

/**
 * The document's words once more, held otherwise than in the program: names are texts, each of the
 * document's terms is a map of its own, and time goes tick by tick.
 */
final class HouseModel {
    private static final int REFUSED = -1, NONE = -2, FULL = -3;
    private static final Comparator<String> BY_NAME =
            Comparator.comparingInt(String::length).thenComparing(Comparator.naturalOrder());

    private record Lease(int holder, int until) {
    }

    private record Waiting(int client, int ticks, int since) {
    }

    private record Job(String name, int rank, int due) {
    }

    private record Note(String name, int kind) {
    }

    private final TreeMap<String, Lease> leases = new TreeMap<>(BY_NAME);
    private final Map<String, List<Waiting>> rows = new TreeMap<>();
    private final Map<String, Integer> changes = new TreeMap<>();
    private final Map<String, LinkedHashSet<Integer>> watchers = new TreeMap<>();
    private final List<Job> jobs = new ArrayList<>();
    private final LinkedHashMap<String, Integer> cache = new LinkedHashMap<>(8, 0.75f, true);
    private final TreeMap<Integer, Integer> waits = new TreeMap<>();
    private final List<ArrayDeque<Note>> notes = new ArrayList<>();
    private String tape = "";
    private int now = 0;

    HouseModel() {
        for (int client = 0; client < 16; client++) {
            notes.add(new ArrayDeque<>());
        }
    }

    int sign(int letter) {
        if (letter < 'a' || letter > 'z') {
            return REFUSED;
        }
        if (tape.length() == 6) {
            return FULL;
        }
        tape += (char) letter;
        return tape.length();
    }

    int erase() {
        int had = tape.length();
        tape = "";
        return had;
    }

    int want(int client, int ticks) {
        if (tape.isEmpty() || isNoClient(client) || ticks < 1 || ticks > 100) {
            return REFUSED;
        }
        Lease lease = leases.get(tape);
        if (lease == null) {
            leases.put(tape, new Lease(client, now + ticks));
            change(tape, 1);
            return 0;
        }
        List<Waiting> row = rows.computeIfAbsent(tape, name -> new ArrayList<>());
        if (lease.holder == client || row.stream().anyMatch(one -> one.client == client)) {
            return NONE;
        }
        if (row.size() == 5) {
            return FULL;
        }
        row.add(new Waiting(client, ticks, now));
        return row.size();
    }

    int free(int client) {
        if (tape.isEmpty() || isNoClient(client) || !isHolder(client)) {
            return REFUSED;
        }
        end(tape);
        return holder();
    }

    int renew(int client, int ticks) {
        if (tape.isEmpty() || isNoClient(client) || !isHolder(client) || ticks < 1 || ticks > 100) {
            return REFUSED;
        }
        leases.put(tape, new Lease(client, now + ticks));
        change(tape, 3);
        return now + ticks;
    }

    int leave(int client) {
        if (tape.isEmpty() || isNoClient(client)) {
            return REFUSED;
        }
        List<Waiting> row = rows.getOrDefault(tape, new ArrayList<>());
        return row.removeIf(one -> one.client == client) ? row.size() : NONE;
    }

    int tick(int n) {
        if (n < 0 || n > 60) {
            return REFUSED;
        }
        int ended = 0;
        for (int k = 0; k < n; k++) {
            now++;
            for (String name : new ArrayList<>(leases.keySet())) {
                if (leases.get(name).until == now) {
                    end(name);
                    ended++;
                }
            }
        }
        return ended;
    }

    int holder() {
        if (tape.isEmpty()) {
            return REFUSED;
        }
        Lease lease = leases.get(tape);
        return lease == null ? NONE : lease.holder;
    }

    int left() {
        if (tape.isEmpty()) {
            return REFUSED;
        }
        Lease lease = leases.get(tape);
        return lease == null ? NONE : lease.until - now;
    }

    int waiting(int k) {
        if (tape.isEmpty()) {
            return REFUSED;
        }
        List<Waiting> row = rows.getOrDefault(tape, List.of());
        return k < 0 || k >= row.size() ? NONE : row.get(k).client;
    }

    int first() {
        if (leases.isEmpty()) {
            return NONE;
        }
        int until = leases.values().stream().mapToInt(Lease::until).min().getAsInt();
        tape = leases.keySet().stream().filter(name -> leases.get(name).until == until).findFirst().get();
        return holder();
    }

    int job(int rank, int due) {
        if (tape.isEmpty()) {
            return REFUSED;
        }
        if (jobs.size() == 30) {
            return FULL;
        }
        jobs.add(new Job(tape, rank, due));
        return jobs.size();
    }

    long work() {
        // A stable sort: among equals the one that came first stays first.
        Job job = jobs.stream().sorted(Comparator.comparingInt(Job::rank).thenComparingInt(Job::due))
                .findFirst().orElse(null);
        if (job == null || job.due > now) {
            return 1L << 40;
        }
        jobs.remove(job);
        tape = job.name;
        return job.rank;
    }

    int cancel() {
        if (tape.isEmpty()) {
            return REFUSED;
        }
        int before = jobs.size();
        jobs.removeIf(job -> job.name.equals(tape));
        return before - jobs.size();
    }

    int ask() {
        if (tape.isEmpty()) {
            return REFUSED;
        }
        Integer number = cache.get(tape);
        if (number != null) {
            return number;
        }
        if (cache.size() == 4) {
            cache.remove(cache.keySet().iterator().next());
        }
        cache.put(tape, 1000 * changes.getOrDefault(tape, 0) + now);
        return cache.get(tape);
    }

    boolean known() {
        return cache.containsKey(tape);
    }

    int watch(int client) {
        if (tape.isEmpty() || isNoClient(client)) {
            return REFUSED;
        }
        LinkedHashSet<Integer> who = watchers.computeIfAbsent(tape, name -> new LinkedHashSet<>());
        if (!who.remove(client)) {
            who.add(client);
        }
        return who.size();
    }

    int note(int client) {
        if (isNoClient(client)) {
            return REFUSED;
        }
        Note note = notes.get(client).pollFirst();
        if (note == null) {
            return NONE;
        }
        tape = note.name;
        return note.kind;
    }

    int waits(int low, int high) {
        return low >= high ? 0 : waits.subMap(low, high).values().stream().mapToInt(Integer::intValue).sum();
    }

    int waited(int ticks) {
        Integer found = waits.floorKey(ticks);
        return found == null ? NONE : found;
    }

    int letter(int k) {
        return k < 0 || k >= tape.length() ? NONE : tape.charAt(k);
    }

    int count(int what) {
        return switch (what) {
            case 0 -> now;
            case 1 -> leases.size();
            case 2 -> rows.values().stream().mapToInt(List::size).sum();
            case 3 -> jobs.size();
            case 4 -> cache.size();
            case 5 -> (int) watchers.values().stream().filter(who -> !who.isEmpty()).count();
            case 6 -> changes.getOrDefault(tape, 0);
            case 7 -> notes.stream().mapToInt(ArrayDeque::size).sum();
            default -> REFUSED;
        };
    }

    private static boolean isNoClient(int client) {
        return client < 0 || client > 15;
    }

    private boolean isHolder(int client) {
        return leases.containsKey(tape) && leases.get(tape).holder == client;
    }

    private void end(String name) {
        List<Waiting> row = rows.getOrDefault(name, List.of());
        if (row.isEmpty()) {
            leases.remove(name);
            change(name, 4);
            return;
        }
        Waiting next = row.remove(0);
        waits.merge(now - next.since, 1, Integer::sum);
        leases.put(name, new Lease(next.client, now + next.ticks));
        change(name, 2);
    }

    private void change(String name, int kind) {
        changes.merge(name, 1, Integer::sum);
        for (int client : watchers.getOrDefault(name, new LinkedHashSet<>())) {
            notes.get(client).addLast(new Note(name, kind));
            if (notes.get(client).size() > 8) {
                notes.get(client).removeFirst();
            }
        }
    }
}
