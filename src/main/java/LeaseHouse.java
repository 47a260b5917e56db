import java.util.ArrayList;

/**
 * A house that lends things by name for a time, keeps those who wait in rows, does jobs by their
 * turn, keeps what was asked for lately, and tells those who watch.
 *
 * A name is held as one number: its letters are digits 1 to 26 of a number to the base 26. Such
 * numbers stand in the very order of the names, shorter ones first, so comparing them is enough.
 */
public final class LeaseHouse {
    public static final int REFUSED = -1, NONE = -2, FULL = -3;

    private static final int NO_NAME = 0;
    private static final int FIRST_LETTER = 97, LAST_LETTER = 122, LETTERS = 26;
    private static final int MOST_LETTERS = 6;

    private static final int CLIENTS = 16;
    private static final int MOST_LEASE_TICKS = 100;
    private static final int MOST_TICKS = 60;
    private static final int MOST_WAITING = 5;
    private static final int MOST_JOBS = 30;
    private static final int MOST_CACHED = 4;
    private static final int MOST_NOTES = 8;
    // An object is good for 512 calls, and a call adds one name or one waiting client at most.
    private static final int MOST_CALLS = 512;

    private static final int BEGAN = 1, STARTED = 2, RENEWED = 3, ENDED = 4;
    private static final int CHANGE_WORTH = 1000;
    private static final long NO_WORK = 1L << 40;

    private final ArrayList<Thing> things = new ArrayList<>();
    private final ArrayList<Job> jobs = new ArrayList<>();
    private final ArrayList<Cached> cache = new ArrayList<>();
    private final NoteBox[] boxes = new NoteBox[CLIENTS];
    private final WaitTimes waitTimes = new WaitTimes();
    private int tape = NO_NAME;
    private int now = 0;

    /** The sort is not kept: a name is looked for by its number itself, so nothing is hashed. */
    public LeaseHouse(int sort) {
        for (int client = 0; client < CLIENTS; client++) {
            boxes[client] = new NoteBox();
        }
    }

    public int sign(int letter) {
        if (letter < FIRST_LETTER || letter > LAST_LETTER) {
            return REFUSED;
        }
        int length = lengthOf(tape);
        if (length >= MOST_LETTERS) {
            return FULL;
        }
        tape = tape * LETTERS + (letter - FIRST_LETTER + 1);
        return length + 1;
    }

    public int erase() {
        int length = lengthOf(tape);
        tape = NO_NAME;
        return length;
    }

    public int want(int client, int ticks) {
        if (!hasNameAnd(client) || !isLeaseTime(ticks)) {
            return REFUSED;
        }
        Thing thing = findOrAddThing(tape);
        if (thing == null) {
            return REFUSED;
        }
        if (thing.isLent()) {
            return lineUp(thing, client, ticks);
        }
        lend(thing, client, ticks, BEGAN);
        return 0;
    }

    public int free(int client) {
        Thing thing = findThingHeldBy(client);
        if (thing == null) {
            return REFUSED;
        }
        endLease(thing);
        return thing.holder;
    }

    public int renew(int client, int ticks) {
        Thing thing = findThingHeldBy(client);
        if (thing == null || !isLeaseTime(ticks)) {
            return REFUSED;
        }
        lend(thing, client, ticks, RENEWED);
        return thing.until;
    }

    public int leave(int client) {
        if (!hasNameAnd(client)) {
            return REFUSED;
        }
        Thing thing = findThing(tape);
        if (thing == null) {
            return NONE;
        }
        int place = thing.placeOf(client);
        if (place == NONE) {
            return NONE;
        }
        thing.row.remove(place);
        return thing.row.size();
    }

    public int tick(int n) {
        if (n < 0 || n > MOST_TICKS) {
            return REFUSED;
        }
        int target = now + n;
        // A lease is for one tick at least, so that of a name ends no more than n times.
        int mostEnds = n * things.size();
        int ended = 0;
        Thing next = findNextToEnd();
        while (ended < mostEnds && next != null && next.until <= target) {
            now = next.until;
            endLease(next);
            ended++;
            next = findNextToEnd();
        }
        now = target;
        return ended;
    }

    public int holder() {
        if (tape == NO_NAME) {
            return REFUSED;
        }
        Thing thing = findThing(tape);
        return thing == null ? NONE : thing.holder;
    }

    public int left() {
        if (tape == NO_NAME) {
            return REFUSED;
        }
        Thing thing = findThing(tape);
        return thing == null || !thing.isLent() ? NONE : thing.until - now;
    }

    public int waiting(int k) {
        if (tape == NO_NAME) {
            return REFUSED;
        }
        Thing thing = findThing(tape);
        if (thing == null || k < 0 || k >= thing.row.size()) {
            return NONE;
        }
        return thing.row.get(k).client();
    }

    public int first() {
        Thing next = findNextToEnd();
        if (next == null) {
            return NONE;
        }
        tape = next.name;
        return next.holder;
    }

    public int job(int rank, int due) {
        if (tape == NO_NAME) {
            return REFUSED;
        }
        if (jobs.size() >= MOST_JOBS) {
            return FULL;
        }
        Job job = new Job(tape, rank, due);
        jobs.add(findTurnOf(job), job);
        return jobs.size();
    }

    public long work() {
        if (jobs.isEmpty() || jobs.get(0).due() > now) {
            return NO_WORK;
        }
        Job job = jobs.remove(0);
        tape = job.name();
        return job.rank();
    }

    public int cancel() {
        if (tape == NO_NAME) {
            return REFUSED;
        }
        int before = jobs.size();
        // From the end, so that a removal moves none of the jobs still to be looked at.
        for (int at = before - 1; at >= 0; at--) {
            if (jobs.get(at).name() == tape) {
                jobs.remove(at);
            }
        }
        return before - jobs.size();
    }

    public int ask() {
        if (tape == NO_NAME) {
            return REFUSED;
        }
        int place = findInCache(tape);
        Cached asked = place == NONE
                ? new Cached(tape, CHANGE_WORTH * changesOf(tape) + now)
                : cache.remove(place);
        if (cache.size() >= MOST_CACHED) {
            cache.remove(0);
        }
        cache.add(asked);
        return asked.number();
    }

    public boolean known() {
        return tape != NO_NAME && findInCache(tape) != NONE;
    }

    public int watch(int client) {
        if (!hasNameAnd(client)) {
            return REFUSED;
        }
        Thing thing = findOrAddThing(tape);
        if (thing == null) {
            return REFUSED;
        }
        thing.watchers ^= 1 << client;
        return Integer.bitCount(thing.watchers);
    }

    public int note(int client) {
        if (!isClient(client)) {
            return REFUSED;
        }
        Note oldest = boxes[client].takeOldest();
        if (oldest == null) {
            return NONE;
        }
        tape = oldest.name();
        return oldest.kind();
    }

    public int waits(int low, int high) {
        return waitTimes.countFrom(low, high);
    }

    public int waited(int ticks) {
        return waitTimes.greatestUpTo(ticks);
    }

    public int letter(int k) {
        int length = lengthOf(tape);
        if (k < 0 || k >= length) {
            return NONE;
        }
        int name = tape;
        for (int last = length - 1; last > k; last--) {
            name = withoutLastLetter(name);
        }
        return FIRST_LETTER + (name - 1) % LETTERS;
    }

    public int count(int what) {
        switch (what) {
            case 0:
                return now;
            case 1:
                return countLeases();
            case 2:
                return countWaiting();
            case 3:
                return jobs.size();
            case 4:
                return cache.size();
            case 5:
                return countWatchedNames();
            case 6:
                return changesOf(tape);
            case 7:
                return countNotes();
            default:
                return REFUSED;
        }
    }

    private static int lengthOf(int name) {
        int length = 0;
        int rest = name;
        while (length < MOST_LETTERS && rest != NO_NAME) {
            rest = withoutLastLetter(rest);
            length++;
        }
        return length;
    }

    private static int withoutLastLetter(int name) {
        return (name - 1) / LETTERS;
    }

    private static boolean isClient(int client) {
        return client >= 0 && client < CLIENTS;
    }

    private static boolean isLeaseTime(int ticks) {
        return ticks >= 1 && ticks <= MOST_LEASE_TICKS;
    }

    private boolean hasNameAnd(int client) {
        return tape != NO_NAME && isClient(client);
    }

    private Thing findThing(int name) {
        for (int at = 0; at < things.size(); at++) {
            if (things.get(at).name == name) {
                return things.get(at);
            }
        }
        return null;
    }

    /** Null only for a name too many, which no run of 512 calls can bring. */
    private Thing findOrAddThing(int name) {
        Thing thing = findThing(name);
        if (thing == null && things.size() < MOST_CALLS) {
            thing = new Thing(name);
            things.add(thing);
        }
        return thing;
    }

    private Thing findThingHeldBy(int client) {
        // NONE is a number too, and would be taken for the holder of what nobody holds.
        if (!hasNameAnd(client)) {
            return null;
        }
        Thing thing = findThing(tape);
        return thing != null && thing.holder == client ? thing : null;
    }

    private Thing findNextToEnd() {
        Thing next = null;
        for (int at = 0; at < things.size(); at++) {
            Thing thing = things.get(at);
            if (thing.isLent() && (next == null || thing.endsBefore(next))) {
                next = thing;
            }
        }
        return next;
    }

    private int lineUp(Thing thing, int client, int ticks) {
        if (thing.holder == client || thing.placeOf(client) != NONE) {
            return NONE;
        }
        if (thing.row.size() >= MOST_WAITING) {
            return FULL;
        }
        thing.row.add(new Waiter(client, ticks, now));
        return thing.row.size();
    }

    private void lend(Thing thing, int client, int ticks, int kind) {
        thing.holder = client;
        thing.until = now + ticks;
        tellChange(thing, kind);
    }

    private void endLease(Thing thing) {
        if (thing.row.isEmpty()) {
            thing.holder = NONE;
            tellChange(thing, ENDED);
            return;
        }
        Waiter next = thing.row.remove(0);
        waitTimes.add(now - next.since());
        lend(thing, next.client(), next.ticks(), STARTED);
    }

    private void tellChange(Thing thing, int kind) {
        thing.changes++;
        if (thing.watchers == 0) {
            return;
        }
        Note note = new Note(thing.name, kind);
        for (int client = 0; client < CLIENTS; client++) {
            if (thing.isWatchedBy(client)) {
                boxes[client].put(note);
            }
        }
    }

    private int findTurnOf(Job job) {
        int turn = 0;
        while (turn < jobs.size() && !job.goesBefore(jobs.get(turn))) {
            turn++;
        }
        return turn;
    }

    private int findInCache(int name) {
        for (int at = 0; at < cache.size(); at++) {
            if (cache.get(at).name() == name) {
                return at;
            }
        }
        return NONE;
    }

    private int changesOf(int name) {
        Thing thing = findThing(name);
        return thing == null ? 0 : thing.changes;
    }

    private int countLeases() {
        int leases = 0;
        for (int at = 0; at < things.size(); at++) {
            if (things.get(at).isLent()) {
                leases++;
            }
        }
        return leases;
    }

    private int countWaiting() {
        int clients = 0;
        for (int at = 0; at < things.size(); at++) {
            clients += things.get(at).row.size();
        }
        return clients;
    }

    private int countWatchedNames() {
        int names = 0;
        for (int at = 0; at < things.size(); at++) {
            if (things.get(at).watchers != 0) {
                names++;
            }
        }
        return names;
    }

    private int countNotes() {
        int notes = 0;
        for (int client = 0; client < CLIENTS; client++) {
            notes += boxes[client].size();
        }
        return notes;
    }

    /** What the house knows of one name that was ever wanted or watched. */
    private static final class Thing {
        final int name;
        final ArrayList<Waiter> row = new ArrayList<>();
        int holder = NONE;
        int until = 0;
        int changes = 0;
        // A bit for each client: notes lie in rows of their own, so who came first is never told.
        int watchers = 0;

        Thing(int name) {
            this.name = name;
        }

        boolean isLent() {
            return holder != NONE;
        }

        boolean endsBefore(Thing other) {
            return until != other.until ? until < other.until : name < other.name;
        }

        boolean isWatchedBy(int client) {
            return (watchers >> client & 1) == 1;
        }

        int placeOf(int client) {
            for (int at = 0; at < row.size(); at++) {
                if (row.get(at).client() == client) {
                    return at;
                }
            }
            return NONE;
        }
    }

    private record Waiter(int client, int ticks, int since) {
    }

    private record Job(int name, int rank, int due) {
        boolean goesBefore(Job other) {
            return rank != other.rank ? rank < other.rank : due < other.due;
        }
    }

    private record Cached(int name, int number) {
    }

    private record Note(int name, int kind) {
    }

    /** One client's notes, the oldest first. */
    private static final class NoteBox {
        private final ArrayList<Note> notes = new ArrayList<>();

        void put(Note note) {
            if (notes.size() >= MOST_NOTES) {
                notes.remove(0);
            }
            notes.add(note);
        }

        Note takeOldest() {
            return notes.isEmpty() ? null : notes.remove(0);
        }

        int size() {
            return notes.size();
        }
    }

    /** How long each one waited whose lease was STARTED, one entry a time. */
    private static final class WaitTimes {
        private final int[] times = new int[MOST_CALLS];
        private int size = 0;

        void add(int ticks) {
            if (size < times.length) {
                times[size] = ticks;
                size++;
            }
        }

        int countFrom(int low, int high) {
            int found = 0;
            for (int at = 0; at < size; at++) {
                if (times[at] >= low && times[at] < high) {
                    found++;
                }
            }
            return found;
        }

        int greatestUpTo(int ticks) {
            int greatest = NONE;
            for (int at = 0; at < size; at++) {
                if (times[at] <= ticks && times[at] > greatest) {
                    greatest = times[at];
                }
            }
            return greatest;
        }
    }
}
