/**
 * Parts that work side by side, none of which guesses. The words in capitals, and what each call
 * answers, are those of the document.
 *
 * <p>Every row is made in the constructor and used again, so that no call makes an object.
 */
public final class SafeParts {
    public static final int NONE = -1, NEVER = 99999999, UNKNOWN = -1000000001, OUTSIDE = -1000000002, NOT = -1000000003, FULL = -1000000004;

    private static final int MOST_PARTS = 6;
    private static final int MOST_CHANNELS = 12;
    private static final int MOST_BY_HAND = 30;
    private static final int MOST_PROMISE = 99;
    private static final int MOST_DELAY = 99;
    private static final int MOST_TIME = 9999;
    private static final int MOST_VALUE = 99;
    private static final int MOST_LOTS = 20;
    private static final int MOST_SEED = 999999;
    private static final int MOST_ROUNDS_A_RUN = 40;
    private static final int MOST_STEPS_TO_FINISH = 400;
    private static final int MOST_IN_ORDER = 300;
    private static final int MOST_ENTRIES = 200;
    private static final int HOW_MANY_IMAGES = 2;

    private static final int BY_EMPTY_LETTERS = 0;
    private static final int BY_STANDING_STILL = 1;
    private static final int AS_ASKED = 2;

    private static final int SUM_FACTOR = 31;
    private static final int SUM_DIVISOR = 1000003;
    private static final long LOT_FACTOR = 16807L;
    private static final long LOT_DIVISOR = 2147483647L;
    private static final int LOT_TIMES = 50;
    private static final int LOT_VALUES = 20;

    /** Below every CHANNEL's number, so that what was told by hand comes ahead of LETTERS. */
    private static final int BY_HAND = -1;

    /** Not one of the refusals, and no answer of its own. */
    private static final int NO_REFUSAL = 0;

    private final World world;
    private final World trial;
    private final World[] images;
    private final boolean[] isKept;
    private final Log log;
    private final int[] leastTo;

    public SafeParts() {
        world = new World();
        trial = new World();
        images = new World[HOW_MANY_IMAGES];
        for (int i = 0; i < HOW_MANY_IMAGES; i++) {
            images[i] = new World();
        }
        isKept = new boolean[HOW_MANY_IMAGES];
        log = new Log();
        leastTo = new int[MOST_PARTS];
    }

    // ---- what there is

    public int parts(int n) {
        if (isOutside(n, 1, MOST_PARTS)) {
            return OUTSIDE;
        }
        int workedOn = world.workedOn;
        world.beginAnew(n);
        log.clear();
        for (int i = 0; i < HOW_MANY_IMAGES; i++) {
            isKept[i] = false;
        }
        return workedOn;
    }

    public int channel(int from, int to, int promise, int delay) {
        if (areNotTwoParts(from, to)) {
            return UNKNOWN;
        }
        if (isOutside(promise, 0, MOST_PROMISE) || isOutside(delay, 1, MOST_DELAY) || delay < promise) {
            return OUTSIDE;
        }
        if (world.channels.find(from, to) != NONE || world.roundsAndLetGo() > 0) {
            return NOT;
        }
        if (world.channels.size >= MOST_CHANNELS) {
            return FULL;
        }
        return world.channels.add(from, to, promise, delay);
    }

    public int event(int part, int time, int value) {
        int refusal = refusalOfEvent(part, time, value);
        if (refusal != NO_REFUSAL) {
            return refusal;
        }
        return world.tellByHand(part, time, value);
    }

    public int form(int v) {
        if (isOutside(v, BY_EMPTY_LETTERS, AS_ASKED)) {
            return OUTSIDE;
        }
        int before = world.formNow;
        world.formNow = v;
        return before;
    }

    public int drift(int n, int seed) {
        if (isOutside(n, 1, MOST_LOTS) || isOutside(seed, 1, MOST_SEED)) {
            return OUTSIDE;
        }
        int howMany = world.partCount;
        if (howMany < 1) {
            return NOT;
        }
        long x = seed;
        int came = 0;
        for (int k = 0; k < n; k++) {
            x = nextLot(x);
            int p = (int) (x % howMany);
            x = nextLot(x);
            int time = world.now[p] + 1 + (int) (x % LOT_TIMES);
            x = nextLot(x);
            int value = (int) (x % LOT_VALUES);
            if (refusalOfEvent(p, time, value) == NO_REFUSAL) {
                world.tellByHand(p, time, value);
                came++;
            }
        }
        return came;
    }

    // ---- runs

    public int run(int n) {
        if (isOutside(n, 1, MOST_ROUNDS_A_RUN)) {
            return OUTSIDE;
        }
        if (nothingIsRun()) {
            return NOT;
        }
        int before = world.workedOn;
        boolean still = false;
        for (int k = 0; k < n && !still && world.eventsThatWait() > 0; k++) {
            still = isStillAfterRound();
        }
        return world.workedOn - before;
    }

    public int letGo() {
        if (world.eventsThatWait() == 0 || world.partsThatMay() != 0) {
            return NOT;
        }
        return letEarliestGo();
    }

    public int finish() {
        if (nothingIsRun()) {
            return NOT;
        }
        int before = world.workedOn;
        boolean still = false;
        for (int k = 0; k < MOST_STEPS_TO_FINISH && world.eventsThatWait() > 0; k++) {
            if (still) {
                letEarliestGo();
                still = false;
            } else {
                still = isStillAfterRound();
            }
        }
        return world.workedOn - before;
    }

    // ---- what is told

    public int told(int what) {
        switch (what) {
            case 0: return world.partCount;
            case 1: return world.channels.size;
            case 2: return world.formNow;
            case 3: return world.eventsThatWait();
            case 4: return world.workedOn;
            case 5: return world.emptyLetters;
            case 6: return world.rounds;
            case 7: return world.timesLetGo;
            case 8: return world.partsThatMay();
            case 9: return world.leastTime();
            case 10: return log.size;
            case 11: return world.channels.hasRingWithoutPromise(world.partCount) ? 1 : 0;
            case 12: return world.toldByHand;
            default: return OUTSIDE;
        }
    }

    public int part(int p, int what) {
        if (isNoPart(p)) {
            return UNKNOWN;
        }
        switch (what) {
            case 0: return world.count[p];
            case 1: return world.sum[p];
            case 2: return world.now[p];
            case 3: return world.safeOf(p);
            case 4: return world.waiting[p].size;
            case 5: return world.waiting[p].firstTime();
            case 6: return world.waiting[p].firstValue();
            case 7: return world.mayWork(p) ? 1 : 0;
            case 8: return world.channelWaitedFor(p);
            case 9: return world.channels.countFrom(p);
            case 10: return world.channels.countTo(p);
            default: return OUTSIDE;
        }
    }

    public int channelOf(int c, int what) {
        Channels channels = world.channels;
        if (c < 0 || c >= channels.size) {
            return UNKNOWN;
        }
        switch (what) {
            case 0: return channels.from[c];
            case 1: return channels.to[c];
            case 2: return channels.promise[c];
            case 3: return channels.delay[c];
            case 4: return channels.clock[c];
            case 5: return channels.letters[c];
            case 6: return channels.empties[c];
            default: return OUTSIDE;
        }
    }

    public int between(int from, int to) {
        if (areNotTwoParts(from, to)) {
            return UNKNOWN;
        }
        return world.channels.find(from, to);
    }

    public int record(int k, int what) {
        if (k < 0 || isOutside(what, 0, 3)) {
            return OUTSIDE;
        }
        if (k >= log.size) {
            return NONE;
        }
        switch (what) {
            case 0: return log.part[k];
            case 1: return log.time[k];
            case 2: return log.value[k];
            default: return log.round[k];
        }
    }

    public int ring(int p) {
        if (isNoPart(p)) {
            return UNKNOWN;
        }
        int least = leastPromisesRound(p);
        return least == NEVER ? NONE : least;
    }

    public int waits(int p) {
        if (isNoPart(p)) {
            return UNKNOWN;
        }
        int set = 0;
        int at = p;
        // A PART waits for one other at most, so after as many steps as there are PARTS all were met.
        for (int k = 0; k < MOST_PARTS; k++) {
            int c = world.channelWaitedFor(at);
            if (c == NONE) {
                return set;
            }
            at = world.channels.from[c];
            set |= 1 << at;
        }
        return set;
    }

    public int inOrder(int p, int what) {
        if (isNoPart(p)) {
            return UNKNOWN;
        }
        if (isOutside(what, 0, 1)) {
            return OUTSIDE;
        }
        trial.copyFrom(world);
        for (int k = 0; k < MOST_IN_ORDER && trial.eventsThatWait() > 0; k++) {
            trial.workOnFirst(trial.partOfLeastTime());
        }
        return what == 0 ? trial.count[p] : trial.sum[p];
    }

    // ---- images

    public int keep(int i) {
        if (isNoImage(i)) {
            return UNKNOWN;
        }
        images[i].copyFrom(world);
        isKept[i] = true;
        return 1;
    }

    public int goBack(int i) {
        if (isNoImage(i)) {
            return UNKNOWN;
        }
        if (!isKept[i]) {
            return NOT;
        }
        world.copyFrom(images[i]);
        return 1;
    }

    // ---- what is asked ahead of a call

    private static boolean isOutside(int number, int least, int most) {
        return number < least || number > most;
    }

    private static boolean isNoImage(int i) {
        return i < 0 || i >= HOW_MANY_IMAGES;
    }

    private boolean isNoPart(int p) {
        return p < 0 || p >= world.partCount;
    }

    private boolean areNotTwoParts(int a, int b) {
        return isNoPart(a) || isNoPart(b) || a == b;
    }

    private int refusalOfEvent(int p, int time, int value) {
        if (isNoPart(p)) {
            return UNKNOWN;
        }
        if (isOutside(time, 0, MOST_TIME) || isOutside(value, 0, MOST_VALUE)) {
            return OUTSIDE;
        }
        if (world.hasWorkedAtOrBehind(p, time) || world.channels.promiseMoreThan(p, time)) {
            return NOT;
        }
        return world.toldByHand >= MOST_BY_HAND ? FULL : NO_REFUSAL;
    }

    private boolean nothingIsRun() {
        if (world.partCount == 0) {
            return true;
        }
        return world.formNow != BY_STANDING_STILL && world.channels.hasRingWithoutPromise(world.partCount);
    }

    private static long nextLot(long x) {
        return x * LOT_FACTOR % LOT_DIVISOR;
    }

    // ---- how a ROUND goes

    /** Runs one ROUND and tells whether it was STILL. */
    private boolean isStillAfterRound() {
        int workedBefore = world.workedOn;
        int emptyBefore = world.emptyLetters;
        for (int p = 0; p < world.partCount; p++) {
            if (world.mayWork(p)) {
                workAndWriteDown(p);
            }
        }
        if (world.formNow != BY_STANDING_STILL) {
            for (int p = 0; p < world.partCount; p++) {
                world.sendEmptyLetters(p);
            }
        }
        world.rounds++;
        return world.workedOn == workedBefore && world.emptyLetters == emptyBefore && world.eventsThatWait() > 0;
    }

    /** LET GO; it is called only while EVENTS wait. */
    private int letEarliestGo() {
        int time = world.leastTime();
        for (int p = 0; p < world.partCount; p++) {
            // A LETTER is later than what it comes from, so none of this time is added meanwhile.
            for (int k = 0; k < MOST_BY_HAND && world.waiting[p].firstTime() == time; k++) {
                workAndWriteDown(p);
            }
        }
        world.channels.raiseClocks(time + 1);
        world.timesLetGo++;
        return time;
    }

    private void workAndWriteDown(int p) {
        Waiting events = world.waiting[p];
        log.add(p, events.firstTime(), events.firstValue(), world.roundsAndLetGo());
        world.workOnFirst(p);
    }

    /** The least PROMISES together from a PART back to itself; NEVER without a way. */
    private int leastPromisesRound(int p) {
        for (int q = 0; q < MOST_PARTS; q++) {
            leastTo[q] = NEVER;
        }
        Channels channels = world.channels;
        for (int k = 0; k < world.partCount; k++) {
            for (int c = 0; c < channels.size; c++) {
                int from = channels.from[c];
                int to = channels.to[c];
                int ahead = from == p ? 0 : leastTo[from];
                // NEVER and a PROMISE is no less than NEVER, so what is not reached stays so.
                leastTo[to] = Math.min(leastTo[to], ahead + channels.promise[c]);
            }
        }
        return leastTo[p];
    }

    /** All that an IMAGE keeps. */
    private static final class World {
        final Channels channels = new Channels();
        final Waiting[] waiting = new Waiting[MOST_PARTS];
        final int[] count = new int[MOST_PARTS];
        final int[] sum = new int[MOST_PARTS];
        final int[] now = new int[MOST_PARTS];
        int partCount;
        int formNow = BY_EMPTY_LETTERS;
        int workedOn;
        int emptyLetters;
        int rounds;
        int timesLetGo;
        int toldByHand;

        World() {
            for (int p = 0; p < MOST_PARTS; p++) {
                waiting[p] = new Waiting();
            }
        }

        /** FORM stays. */
        void beginAnew(int howMany) {
            channels.size = 0;
            for (int p = 0; p < MOST_PARTS; p++) {
                waiting[p].size = 0;
                count[p] = 0;
                sum[p] = 0;
                now[p] = 0;
            }
            partCount = howMany;
            workedOn = 0;
            emptyLetters = 0;
            rounds = 0;
            timesLetGo = 0;
            toldByHand = 0;
        }

        void copyFrom(World other) {
            channels.copyFrom(other.channels);
            for (int p = 0; p < MOST_PARTS; p++) {
                waiting[p].copyFrom(other.waiting[p]);
                count[p] = other.count[p];
                sum[p] = other.sum[p];
                now[p] = other.now[p];
            }
            partCount = other.partCount;
            formNow = other.formNow;
            workedOn = other.workedOn;
            emptyLetters = other.emptyLetters;
            rounds = other.rounds;
            timesLetGo = other.timesLetGo;
            toldByHand = other.toldByHand;
        }

        /** In THE RECORD LET GO counts as a ROUND; what is told as ROUNDS is without it. */
        int roundsAndLetGo() {
            return rounds + timesLetGo;
        }

        int eventsThatWait() {
            int all = 0;
            for (int p = 0; p < partCount; p++) {
                all += waiting[p].size;
            }
            return all;
        }

        /** The least PART of those whose first EVENT is the earliest of all; 0 without EVENTS. */
        int partOfLeastTime() {
            int earliest = 0;
            for (int p = 1; p < partCount; p++) {
                if (waiting[p].firstTime() < waiting[earliest].firstTime()) {
                    earliest = p;
                }
            }
            return earliest;
        }

        int leastTime() {
            return waiting[partOfLeastTime()].firstTime();
        }

        int safeOf(int p) {
            int c = channels.ofLeastClockTo(p);
            return c == NONE ? NEVER : channels.clock[c];
        }

        /** Without an EVENT the first time is NEVER, and SAFE is not above that. */
        boolean mayWork(int p) {
            return waiting[p].firstTime() < safeOf(p);
        }

        int partsThatMay() {
            int set = 0;
            for (int p = 0; p < partCount; p++) {
                if (mayWork(p)) {
                    set |= 1 << p;
                }
            }
            return set;
        }

        /** Without a CHANNEL to it SAFE is NEVER, so that it waits for none. */
        int channelWaitedFor(int p) {
            int c = channels.ofLeastClockTo(p);
            if (c == NONE || waiting[p].size == 0 || waiting[p].firstTime() < channels.clock[c]) {
                return NONE;
            }
            return c;
        }

        /** A PART works in the order of times, so NOW is the latest that it worked on. */
        boolean hasWorkedAtOrBehind(int p, int time) {
            return count[p] > 0 && now[p] >= time;
        }

        /** How many EVENTS the PART has then. */
        int tellByHand(int p, int time, int value) {
            waiting[p].add(time, value, BY_HAND);
            toldByHand++;
            return waiting[p].size;
        }

        void workOnFirst(int p) {
            Waiting events = waiting[p];
            if (events.size == 0) {
                return;
            }
            int time = events.firstTime();
            int value = events.firstValue();
            events.removeFirst();
            count[p]++;
            sum[p] = (SUM_FACTOR * sum[p] + value + time) % SUM_DIVISOR;
            now[p] = time;
            workedOn++;
            sendLetter(p, time, value);
        }

        private void sendLetter(int p, int time, int value) {
            int ways = channels.countFrom(p);
            if (value <= 0 || ways == 0) {
                return;
            }
            int c = channels.atPlaceFrom(p, value % ways);
            if (c == NONE) {
                return;
            }
            int arrival = time + channels.delay[c];
            waiting[channels.to[c]].add(arrival, value - 1, c);
            channels.letters[c]++;
            channels.clock[c] = Math.max(channels.clock[c], arrival);
        }

        void sendEmptyLetters(int p) {
            int earliest = Math.min(safeOf(p), waiting[p].firstTime());
            for (int c = 0; c < channels.size; c++) {
                int promised = Math.min(earliest + channels.promise[c], NEVER);
                if (channels.from[c] == p && channels.clock[c] < promised && emptyMayGo(c)) {
                    channels.clock[c] = promised;
                    channels.empties[c]++;
                    emptyLetters++;
                }
            }
        }

        /** It is looked at anew for each CHANNEL: an EMPTY LETTER just sent can change who waits. */
        private boolean emptyMayGo(int c) {
            return formNow != AS_ASKED || channelWaitedFor(channels.to[c]) == c;
        }
    }

    /** The CHANNELS, a row for each of their numbers. */
    private static final class Channels {
        final int[] from = new int[MOST_CHANNELS];
        final int[] to = new int[MOST_CHANNELS];
        final int[] promise = new int[MOST_CHANNELS];
        final int[] delay = new int[MOST_CHANNELS];
        final int[] clock = new int[MOST_CHANNELS];
        final int[] letters = new int[MOST_CHANNELS];
        final int[] empties = new int[MOST_CHANNELS];
        int size;

        /** The number of the new CHANNEL; the caller has seen that there is room. */
        int add(int source, int target, int leastWay, int way) {
            if (size >= MOST_CHANNELS) {
                return NONE;
            }
            int c = size;
            from[c] = source;
            to[c] = target;
            promise[c] = leastWay;
            delay[c] = way;
            clock[c] = 0;
            letters[c] = 0;
            empties[c] = 0;
            size++;
            return c;
        }

        void copyFrom(Channels other) {
            System.arraycopy(other.from, 0, from, 0, MOST_CHANNELS);
            System.arraycopy(other.to, 0, to, 0, MOST_CHANNELS);
            System.arraycopy(other.promise, 0, promise, 0, MOST_CHANNELS);
            System.arraycopy(other.delay, 0, delay, 0, MOST_CHANNELS);
            System.arraycopy(other.clock, 0, clock, 0, MOST_CHANNELS);
            System.arraycopy(other.letters, 0, letters, 0, MOST_CHANNELS);
            System.arraycopy(other.empties, 0, empties, 0, MOST_CHANNELS);
            size = other.size;
        }

        int find(int source, int target) {
            for (int c = 0; c < size; c++) {
                if (from[c] == source && to[c] == target) {
                    return c;
                }
            }
            return NONE;
        }

        int countFrom(int p) {
            int found = 0;
            for (int c = 0; c < size; c++) {
                if (from[c] == p) {
                    found++;
                }
            }
            return found;
        }

        int countTo(int p) {
            int found = 0;
            for (int c = 0; c < size; c++) {
                if (to[c] == p) {
                    found++;
                }
            }
            return found;
        }

        /** Of the CHANNELS from a PART (rising) that at a place, counted from 0. */
        int atPlaceFrom(int p, int place) {
            int found = 0;
            for (int c = 0; c < size; c++) {
                if (from[c] == p) {
                    if (found == place) {
                        return c;
                    }
                    found++;
                }
            }
            return NONE;
        }

        /** Of like CLOCKS that of the least number; NONE: no CHANNEL goes to it. */
        int ofLeastClockTo(int p) {
            int least = NONE;
            for (int c = 0; c < size; c++) {
                if (to[c] == p && (least == NONE || clock[c] < clock[least])) {
                    least = c;
                }
            }
            return least;
        }

        /** Whether a CHANNEL from the PART has a CLOCK above the time and PROMISE. */
        boolean promiseMoreThan(int p, int time) {
            for (int c = 0; c < size; c++) {
                if (from[c] == p && clock[c] > time + promise[c]) {
                    return true;
                }
            }
            return false;
        }

        void raiseClocks(int least) {
            for (int c = 0; c < size; c++) {
                clock[c] = Math.max(clock[c], least);
            }
        }

        boolean hasRingWithoutPromise(int howManyParts) {
            for (int p = 0; p < howManyParts; p++) {
                if ((reachedWithoutPromise(p, howManyParts) & 1 << p) != 0) {
                    return true;
                }
            }
            return false;
        }

        /** The SET of PARTS reached from one by one CHANNEL of PROMISE 0 or several. */
        private int reachedWithoutPromise(int p, int howManyParts) {
            int reached = 0;
            for (int k = 0; k < howManyParts; k++) {
                for (int c = 0; c < size; c++) {
                    boolean isOnTheWay = from[c] == p || (reached & 1 << from[c]) != 0;
                    if (promise[c] == 0 && isOnTheWay) {
                        reached |= 1 << to[c];
                    }
                }
            }
            return reached;
        }
    }

    /**
     * The EVENTS of one PART that wait, always in its order. There is room for all that are told by
     * hand: working on an EVENT leaves one LETTER at most, so no more than these ever wait.
     */
    private static final class Waiting {
        final int[] time = new int[MOST_BY_HAND];
        final int[] value = new int[MOST_BY_HAND];
        final int[] way = new int[MOST_BY_HAND];
        int size;

        int firstTime() {
            return size == 0 ? NEVER : time[0];
        }

        int firstValue() {
            return size == 0 ? NONE : value[0];
        }

        void add(int newTime, int newValue, int newWay) {
            if (size >= MOST_BY_HAND) {
                return;
            }
            int at = size;
            while (at > 0 && isBehind(at - 1, newTime, newWay)) {
                time[at] = time[at - 1];
                value[at] = value[at - 1];
                way[at] = way[at - 1];
                at--;
            }
            time[at] = newTime;
            value[at] = newValue;
            way[at] = newWay;
            size++;
        }

        /** False for like ones: what came first stays ahead. */
        private boolean isBehind(int at, int newTime, int newWay) {
            return time[at] > newTime || time[at] == newTime && way[at] > newWay;
        }

        void removeFirst() {
            if (size == 0) {
                return;
            }
            size--;
            System.arraycopy(time, 1, time, 0, size);
            System.arraycopy(value, 1, value, 0, size);
            System.arraycopy(way, 1, way, 0, size);
        }

        void copyFrom(Waiting other) {
            System.arraycopy(other.time, 0, time, 0, other.size);
            System.arraycopy(other.value, 0, value, 0, other.size);
            System.arraycopy(other.way, 0, way, 0, other.size);
            size = other.size;
        }
    }

    /** THE RECORD. */
    private static final class Log {
        final int[] part = new int[MOST_ENTRIES];
        final int[] time = new int[MOST_ENTRIES];
        final int[] value = new int[MOST_ENTRIES];
        final int[] round = new int[MOST_ENTRIES];
        int size;

        void clear() {
            size = 0;
        }

        void add(int newPart, int newTime, int newValue, int newRound) {
            if (size >= MOST_ENTRIES) {
                return;
            }
            part[size] = newPart;
            time[size] = newTime;
            value[size] = newValue;
            round[size] = newRound;
            size++;
        }
    }
}
