import java.util.ArrayList;
import java.util.Comparator;
import java.util.List;

/** The document once more, by other means: lists of small values that are copied, and no rows. */
final class Model {
    record Channel(int from, int to, int promise, int delay) { }

    record Event(int part, int time, int value, int way, int came) { }

    record Entry(int part, int time, int value, int round) { }

    /** What an IMAGE keeps. */
    static final class State {
        int parts;
        int form;
        int worked;
        int rounds;
        int letGos;
        int byHand;
        int came;
        List<Channel> channels = new ArrayList<>();
        List<Event> events = new ArrayList<>();
        int[] clock = new int[12];
        int[] letters = new int[12];
        int[] empties = new int[12];
        int[] count = new int[6];
        int[] sum = new int[6];
        int[] now = new int[6];

        State copy() {
            State s = new State();
            s.parts = parts;
            s.form = form;
            s.worked = worked;
            s.rounds = rounds;
            s.letGos = letGos;
            s.byHand = byHand;
            s.came = came;
            s.channels = new ArrayList<>(channels);
            s.events = new ArrayList<>(events);
            s.clock = clock.clone();
            s.letters = letters.clone();
            s.empties = empties.clone();
            s.count = count.clone();
            s.sum = sum.clone();
            s.now = now.clone();
            return s;
        }
    }

    private static final int NONE = -1, NEVER = 99999999, UNKNOWN = -1000000001, OUTSIDE = -1000000002, NOT = -1000000003, FULL = -1000000004;
    private static final Comparator<Event> ORDER_OF_A_PART =
        Comparator.comparingInt(Event::time).thenComparingInt(Event::way).thenComparingInt(Event::came);
    private static final Comparator<Event> ORDER_OF_ALL =
        Comparator.comparingInt(Event::time).thenComparingInt(Event::part).thenComparing(ORDER_OF_A_PART);

    private State s = new State();
    private final State[] images = new State[2];
    private final List<Entry> entries = new ArrayList<>();

    /** A call by its place in the document's face, with as many of the numbers as it takes. */
    int call(int which, int[] a) {
        switch (which) {
            case 0: return parts(a[0]);
            case 1: return channel(a[0], a[1], a[2], a[3]);
            case 2: return event(a[0], a[1], a[2]);
            case 3: return form(a[0]);
            case 4: return drift(a[0], a[1]);
            case 5: return run(a[0]);
            case 6: return letGo();
            case 7: return finish();
            case 8: return told(a[0]);
            case 9: return part(a[0], a[1]);
            case 10: return channelOf(a[0], a[1]);
            case 11: return between(a[0], a[1]);
            case 12: return record(a[0], a[1]);
            case 13: return ring(a[0]);
            case 14: return waits(a[0]);
            case 15: return inOrder(a[0], a[1]);
            case 16: return keep(a[0]);
            default: return goBack(a[0]);
        }
    }

    private int parts(int n) {
        if (n < 1 || n > 6) return OUTSIDE;
        int worked = s.worked;
        int form = s.form;
        s = new State();
        s.parts = n;
        s.form = form;
        images[0] = null;
        images[1] = null;
        entries.clear();
        return worked;
    }

    private boolean unknown(int p) {
        return p < 0 || p >= s.parts;
    }

    private int channel(int from, int to, int promise, int delay) {
        if (unknown(from) || unknown(to) || from == to) return UNKNOWN;
        if (promise < 0 || promise > 99 || delay < 1 || delay > 99 || promise > delay) return OUTSIDE;
        if (between(from, to) != NONE || s.rounds > 0 || s.letGos > 0) return NOT;
        if (s.channels.size() == 12) return FULL;
        s.channels.add(new Channel(from, to, promise, delay));
        return s.channels.size() - 1;
    }

    private int event(int part, int time, int value) {
        if (unknown(part)) return UNKNOWN;
        if (time < 0 || time > 9999 || value < 0 || value > 99) return OUTSIDE;
        if (s.count[part] > 0 && s.now[part] >= time) return NOT;
        for (int c = 0; c < s.channels.size(); c++) {
            Channel channel = s.channels.get(c);
            if (channel.from == part && s.clock[c] > time + channel.promise) return NOT;
        }
        if (s.byHand == 30) return FULL;
        s.byHand++;
        s.events.add(new Event(part, time, value, -1, s.came++));
        return eventsOf(s, part).size();
    }

    private int form(int v) {
        if (v < 0 || v > 2) return OUTSIDE;
        int was = s.form;
        s.form = v;
        return was;
    }

    private int drift(int n, int seed) {
        if (n < 1 || n > 20 || seed < 1 || seed > 999999) return OUTSIDE;
        if (s.parts == 0) return NOT;
        long[] x = {seed};
        int came = 0;
        for (int k = 0; k < n; k++) {
            int part = lot(x, s.parts);
            int time = s.now[part] + 1 + lot(x, 50);
            int value = lot(x, 20);
            if (event(part, time, value) > 0) came++;
        }
        return came;
    }

    private static int lot(long[] x, int by) {
        x[0] = x[0] * 16807 % 2147483647;
        return (int) (x[0] % by);
    }

    private static List<Event> eventsOf(State s, int p) {
        List<Event> of = new ArrayList<>();
        for (Event e : s.events) {
            if (e.part == p) of.add(e);
        }
        of.sort(ORDER_OF_A_PART);
        return of;
    }

    private int first(int p) {
        return eventsOf(s, p).stream().mapToInt(Event::time).findFirst().orElse(NEVER);
    }

    private int safe(int p) {
        int least = NEVER;
        for (int c = 0; c < s.channels.size(); c++) {
            if (s.channels.get(c).to == p) least = Math.min(least, s.clock[c]);
        }
        return least;
    }

    private boolean may(int p) {
        return !eventsOf(s, p).isEmpty() && first(p) < safe(p);
    }

    private int waitsFor(int p) {
        if (eventsOf(s, p).isEmpty() || may(p)) return NONE;
        for (int c = 0; c < s.channels.size(); c++) {
            if (s.channels.get(c).to == p && s.clock[c] == safe(p)) return c;
        }
        return NONE;
    }

    private static void work(State s, Event e) {
        s.events.remove(e);
        s.worked++;
        s.count[e.part]++;
        s.sum[e.part] = (int) ((31L * s.sum[e.part] + e.value + e.time) % 1000003);
        s.now[e.part] = e.time;
        List<Integer> from = new ArrayList<>();
        for (int c = 0; c < s.channels.size(); c++) {
            if (s.channels.get(c).from == e.part) from.add(c);
        }
        if (e.value > 0 && !from.isEmpty()) {
            int c = from.get(e.value % from.size());
            Channel channel = s.channels.get(c);
            int time = e.time + channel.delay;
            s.events.add(new Event(channel.to, time, e.value - 1, c, s.came++));
            s.letters[c]++;
            if (time > s.clock[c]) s.clock[c] = time;
        }
    }

    private void workHere(Event e) {
        if (entries.size() < 200) entries.add(new Entry(e.part, e.time, e.value, s.rounds + s.letGos));
        work(s, e);
    }

    private boolean stillRound() {
        boolean went = false;
        for (int p = 0; p < s.parts; p++) {
            if (may(p)) {
                workHere(eventsOf(s, p).get(0));
                went = true;
            }
        }
        for (int p = 0; p < s.parts && s.form != 1; p++) {
            int earliest = Math.min(safe(p), first(p));
            for (int c = 0; c < s.channels.size(); c++) {
                Channel channel = s.channels.get(c);
                if (channel.from != p) continue;
                int to = Math.min(NEVER, earliest + channel.promise);
                boolean asked = s.form == 0 || waitsFor(channel.to) == c;
                if (s.clock[c] < to && asked) {
                    s.clock[c] = to;
                    s.empties[c]++;
                    went = true;
                }
            }
        }
        s.rounds++;
        return !went && !s.events.isEmpty();
    }

    private boolean refusedToRun() {
        return s.parts == 0 || s.form != 1 && told(11) == 1;
    }

    private int run(int n) {
        if (n < 1 || n > 40) return OUTSIDE;
        if (refusedToRun()) return NOT;
        int before = s.worked;
        int k = 0;
        while (k < n && !s.events.isEmpty()) {
            k++;
            if (stillRound()) break;
        }
        return s.worked - before;
    }

    private int letGo() {
        if (s.events.isEmpty() || told(8) != 0) return NOT;
        return letItGo();
    }

    private int letItGo() {
        int t = told(9);
        List<Event> due = new ArrayList<>();
        for (Event e : s.events) {
            if (e.time == t) due.add(e);
        }
        due.sort(ORDER_OF_ALL);
        for (Event e : due) {
            workHere(e);
        }
        for (int c = 0; c < s.channels.size(); c++) {
            if (s.clock[c] < t + 1) s.clock[c] = t + 1;
        }
        s.letGos++;
        return t;
    }

    private int finish() {
        if (refusedToRun()) return NOT;
        int before = s.worked;
        int left = 400;
        while (left > 0 && !s.events.isEmpty()) {
            boolean still = stillRound();
            left--;
            if (still && left > 0) {
                letItGo();
                left--;
            }
        }
        return s.worked - before;
    }

    private int told(int what) {
        switch (what) {
            case 0: return s.parts;
            case 1: return s.channels.size();
            case 2: return s.form;
            case 3: return s.events.size();
            case 4: return s.worked;
            case 5: return java.util.Arrays.stream(s.empties).sum();
            case 6: return s.rounds;
            case 7: return s.letGos;
            case 8: return java.util.stream.IntStream.range(0, s.parts).filter(this::may).map(p -> 1 << p).sum();
            case 9: return s.events.stream().mapToInt(Event::time).min().orElse(NEVER);
            case 10: return entries.size();
            case 11: return java.util.stream.IntStream.range(0, s.parts).anyMatch(p -> least(p, p, 0, 0) == 0) ? 1 : 0;
            case 12: return s.byHand;
            default: return OUTSIDE;
        }
    }

    private int part(int p, int what) {
        if (unknown(p)) return UNKNOWN;
        List<Event> of = eventsOf(s, p);
        switch (what) {
            case 0: return s.count[p];
            case 1: return s.sum[p];
            case 2: return s.now[p];
            case 3: return safe(p);
            case 4: return of.size();
            case 5: return first(p);
            case 6: return of.isEmpty() ? NONE : of.get(0).value;
            case 7: return may(p) ? 1 : 0;
            case 8: return waitsFor(p);
            case 9: return (int) s.channels.stream().filter(c -> c.from == p).count();
            case 10: return (int) s.channels.stream().filter(c -> c.to == p).count();
            default: return OUTSIDE;
        }
    }

    private int channelOf(int c, int what) {
        if (c < 0 || c >= s.channels.size()) return UNKNOWN;
        Channel channel = s.channels.get(c);
        int[] all = {channel.from, channel.to, channel.promise, channel.delay, s.clock[c], s.letters[c], s.empties[c]};
        return what < 0 || what >= all.length ? OUTSIDE : all[what];
    }

    private int between(int from, int to) {
        if (unknown(from) || unknown(to) || from == to) return UNKNOWN;
        for (int c = 0; c < s.channels.size(); c++) {
            if (s.channels.get(c).from == from && s.channels.get(c).to == to) return c;
        }
        return NONE;
    }

    private int record(int k, int what) {
        if (k < 0 || what < 0 || what > 3) return OUTSIDE;
        if (k >= entries.size()) return NONE;
        Entry e = entries.get(k);
        return new int[] {e.part, e.time, e.value, e.round}[what];
    }

    private int ring(int p) {
        if (unknown(p)) return UNKNOWN;
        int least = least(p, p, 0, 0);
        return least == NEVER ? NONE : least;
    }

    /** Every way from a PART to an end that meets no PART twice; NEVER: there is none. */
    private int least(int at, int end, int met, int sum) {
        int least = NEVER;
        for (Channel channel : s.channels) {
            if (channel.from != at) continue;
            if (channel.to == end) {
                least = Math.min(least, sum + channel.promise);
            } else if ((met >> channel.to & 1) == 0) {
                least = Math.min(least, least(channel.to, end, met | 1 << channel.to, sum + channel.promise));
            }
        }
        return least;
    }

    private int waits(int p) {
        if (unknown(p)) return UNKNOWN;
        int set = 0;
        int at = p;
        while (waitsFor(at) != NONE) {
            at = s.channels.get(waitsFor(at)).from;
            if ((set >> at & 1) == 1) break;
            set |= 1 << at;
        }
        return set;
    }

    private int inOrder(int p, int what) {
        if (unknown(p)) return UNKNOWN;
        if (what < 0 || what > 1) return OUTSIDE;
        State t = s.copy();
        for (int k = 0; k < 300 && !t.events.isEmpty(); k++) {
            work(t, t.events.stream().min(ORDER_OF_ALL).get());
        }
        return what == 0 ? t.count[p] : t.sum[p];
    }

    private int keep(int i) {
        if (i < 0 || i > 1) return UNKNOWN;
        images[i] = s.copy();
        return 1;
    }

    private int goBack(int i) {
        if (i < 0 || i > 1) return UNKNOWN;
        if (images[i] == null) return NOT;
        s = images[i].copy();
        return 1;
    }
}
