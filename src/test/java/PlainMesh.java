import java.util.ArrayDeque;
import java.util.ArrayList;
import java.util.Deque;
import java.util.HashSet;
import java.util.List;
import java.util.Map;
import java.util.Set;
import java.util.TreeMap;

/**
 * The document once more, sentence by sentence and with the Java library, without a thought of
 * space: ModelTest holds the class against it. It copies what a frame bears when it goes on the
 * air, and makes every frame anew.
 */
final class PlainMesh {
    enum Kind { SOLICIT, ADVERT, ANNOUNCE, VALUE, ACK }

    static final class Frame {
        Kind kind;
        Integer to;
        Map<Integer, Integer> goals;
        boolean withdrawal;
        int source, goal, hops, value;
        boolean down, erred;
    }

    /** What is on the air: a frame, with its sender's version and rank of that moment. */
    record Signal(int from, Frame frame, int version, int rank) { }

    static final class Station {
        boolean dead;
        final Deque<Frame> queue = new ArrayDeque<>();
        int wait, busy, tries;
        Integer owes;
        Integer listensFor;
        int version, rank = 255, least = 255;
        Integer parent;
        final Map<Integer, Integer> known = new TreeMap<>();
        boolean timer;
        int interval = 64, clock, point, count;
        final Map<Integer, Integer> next = new TreeMap<>();
        final int[] number = new int[7];
        final Map<Integer, Frame> lastFrom = new TreeMap<>();
        final List<Integer> delivered = new ArrayList<>();
    }

    final Station[] stations = new Station[7];
    final int[][] cost = new int[7][7];
    final int rise, redundant;
    int s, now, sent, dropped, aired;
    Set<Integer> airLast = new HashSet<>();

    PlainMesh(int seed, int rise, int redundant) {
        s = seed;
        this.rise = rise < 0 ? 0 : rise > 200 ? 200 : rise;
        this.redundant = redundant < 1 ? 1 : redundant > 9 ? 9 : redundant;
        for (int i = 0; i < 7; i++) stations[i] = new Station();
        stations[0].version = 1;
        stations[0].rank = 1;
        stations[0].timer = true;
        reset(0);
    }

    int draw(int n) {
        s = s * 1103515245 + 12345;
        return (s >>> 16) % n;
    }

    boolean queue(int a, Frame frame) {
        Station st = stations[a];
        if (st.queue.size() == 4) {
            if (frame.kind == Kind.VALUE) dropped++;
            return false;
        }
        st.queue.addLast(frame);
        if (st.queue.size() == 1) becomesFirst(st);
        return true;
    }

    void becomesFirst(Station st) {
        st.busy = 0;
        st.tries = 0;
        st.wait = draw(4);
    }

    void leaves(Station st) {
        st.queue.removeFirst();
        if (!st.queue.isEmpty()) becomesFirst(st);
    }

    void fails(int a) {
        Station st = stations[a];
        Frame f = st.queue.getFirst();
        leaves(st);
        if (f.kind == Kind.VALUE) dropped++;
        if (f.to == null) return;
        Integer z = f.to;
        st.next.values().removeIf(v -> v.equals(z));
        if (z.equals(st.parent)) {
            st.known.remove(z);
            choose(a);
        }
    }

    static Frame plain(Kind kind, Integer to) {
        Frame f = new Frame();
        f.kind = kind;
        f.to = to;
        return f;
    }

    void reset(int a) {
        Station st = stations[a];
        if (!st.timer || st.interval == 4) return;
        st.interval = 4;
        begin(st);
    }

    void begin(Station st) {
        st.clock = 0;
        st.count = 0;
        st.point = st.interval / 2 + draw(st.interval / 2);
    }

    /** Whether rank or parent became another. */
    boolean choose(int a) {
        Station st = stations[a];
        List<Integer> open = new ArrayList<>();
        for (var e : st.known.entrySet()) {
            if (cost[a][e.getKey()] != 0 && e.getValue() != 255) open.add(e.getKey());
        }
        int least = 9999;
        for (int b : open) least = Math.min(least, st.known.get(b) + cost[a][b]);
        Integer chosen = null;
        for (int i = open.size() - 1; i >= 0; i--) {
            if (st.known.get(open.get(i)) + cost[a][open.get(i)] == least) chosen = open.get(i);
        }
        if (st.parent != null && open.contains(st.parent)
                && st.known.get(st.parent) + cost[a][st.parent] == least) {
            chosen = st.parent;
        }
        int rank = least;
        if (chosen == null || least > 254 || least > st.least + rise) {
            chosen = null;
            rank = 255;
        }
        Integer oldParent = st.parent;
        boolean otherParent = oldParent == null ? chosen != null : !oldParent.equals(chosen);
        boolean other = otherParent || rank != st.rank;
        st.rank = rank;
        st.parent = chosen;
        if (rank < st.least) st.least = rank;
        if (rank != 255) st.timer = true;
        if (other) reset(a);
        if (otherParent && oldParent != null) queue(a, allGoals(a, oldParent, true));
        if (otherParent && chosen != null) {
            st.number[a]++;
            queue(a, allGoals(a, chosen, false));
        }
        return other;
    }

    Frame allGoals(int a, Integer to, boolean withdrawal) {
        Set<Integer> goals = new HashSet<>(stations[a].next.keySet());
        goals.add(a);
        return announce(a, goals, to, withdrawal);
    }

    Frame announce(int a, Set<Integer> goals, Integer to, boolean withdrawal) {
        Frame f = plain(Kind.ANNOUNCE, to);
        f.withdrawal = withdrawal;
        f.goals = new TreeMap<>();
        for (int g : goals) f.goals.put(g, stations[a].number[g]);
        return f;
    }

    void sendOn(int a, int source, int goal, int hops, int value, boolean erred) {
        Station st = stations[a];
        Frame f = plain(Kind.VALUE, st.next.get(goal));
        f.down = f.to != null;
        if (f.to == null) f.to = st.parent;
        if (f.to == null) {
            dropped++;
            return;
        }
        f.source = source;
        f.goal = goal;
        f.hops = hops;
        f.value = value;
        f.erred = erred;
        queue(a, f);
    }

    void oneTick() {
        now++;
        Map<Integer, Signal> air = new TreeMap<>();
        Set<Integer> listened = new HashSet<>();
        for (int a = 0; a < 7; a++) if (!stations[a].dead) stepOne(a, air, listened);
        Map<Integer, Signal> heard = new TreeMap<>();
        for (int a = 0; a < 7; a++) {
            if (stations[a].dead || air.containsKey(a)) continue;
            List<Signal> reach = new ArrayList<>();
            for (Signal signal : air.values()) if (cost[a][signal.from] != 0) reach.add(signal);
            if (reach.size() == 1) heard.put(a, reach.get(0));
        }
        Set<Integer> acked = new HashSet<>();
        for (var e : heard.entrySet()) take(e.getKey(), e.getValue(), listened, acked);
        for (int a = 0; a < 7; a++) stations[a].listensFor = null;
        for (Signal signal : air.values()) {
            if (signal.frame.kind == Kind.ACK) continue;
            Station st = stations[signal.from];
            if (signal.frame.to == null) leaves(st);
            else st.listensFor = signal.frame.to;
        }
        for (int a = 0; a < 7; a++) {
            if (!listened.contains(a) || acked.contains(a)) continue;
            Station st = stations[a];
            st.tries++;
            if (st.tries == 4) {
                fails(a);
            } else {
                st.busy = 0;
                st.wait = draw(4);
            }
        }
        for (int a = 0; a < 7; a++) if (!stations[a].dead) stepFive(a);
        airLast = new HashSet<>(air.keySet());
    }

    void stepOne(int a, Map<Integer, Signal> air, Set<Integer> listened) {
        Station st = stations[a];
        if (st.owes != null) {
            air.put(a, new Signal(a, plain(Kind.ACK, st.owes), 0, 0));
            st.owes = null;
            return;
        }
        if (st.listensFor != null) {
            listened.add(a);
            return;
        }
        if (st.queue.isEmpty()) return;
        if (st.wait > 0) {
            st.wait--;
            return;
        }
        boolean busy = false;
        for (int b : airLast) busy |= cost[a][b] != 0;
        if (!busy) {
            air.put(a, new Signal(a, st.queue.getFirst(), st.version, st.rank));
            aired++;
            return;
        }
        st.busy++;
        if (st.busy == 5) {
            fails(a);
            return;
        }
        int[] of = {4, 8, 16, 32, 32};
        st.wait = draw(of[st.busy]);
    }

    void take(int a, Signal signal, Set<Integer> listened, Set<Integer> acked) {
        Station st = stations[a];
        Frame f = signal.frame;
        switch (f.kind) {
            case ACK -> {
                if (f.to == a && listened.contains(a) && st.listensFor == signal.from) {
                    acked.add(a);
                    leaves(st);
                }
            }
            case SOLICIT -> {
                if (a == 0 || st.rank != 255) reset(a);
            }
            case ADVERT -> advert(a, signal);
            default -> {
                if (f.to == a) {
                    st.owes = signal.from;
                    if (st.lastFrom.put(signal.from, f) != f) {
                        if (f.kind == Kind.VALUE) receiveValue(a, signal);
                        else receiveAnnounce(a, signal);
                    }
                }
            }
        }
    }

    void advert(int a, Signal signal) {
        Station st = stations[a];
        if (signal.version < st.version) {
            reset(a);
            return;
        }
        if (signal.version > st.version) {
            st.version = signal.version;
            st.known.clear();
            st.least = 255;
            if (st.parent != null || st.rank != 255) {
                st.rank = 255;
                st.parent = null;
                reset(a);
            }
        }
        st.known.put(signal.from, signal.rank);
        if (a == 0 || !choose(a)) st.count++;
    }

    void receiveAnnounce(int a, Signal signal) {
        Station st = stations[a];
        Set<Integer> changed = new HashSet<>();
        for (var e : signal.frame.goals.entrySet()) {
            int g = e.getKey();
            int number = e.getValue();
            Integer via = st.next.get(g);
            boolean isX = via != null && via == signal.from;
            if (g == a || number < st.number[g]) continue;
            if (signal.frame.withdrawal) {
                if (!isX) continue;
                st.number[g] = number;
                st.next.remove(g);
                changed.add(g);
            } else {
                if (!isX || number != st.number[g]) changed.add(g);
                st.number[g] = number;
                st.next.put(g, signal.from);
            }
        }
        if (st.parent != null && !changed.isEmpty()) {
            queue(a, announce(a, changed, st.parent, signal.frame.withdrawal));
        }
    }

    void receiveValue(int a, Signal signal) {
        Station st = stations[a];
        Frame f = signal.frame;
        boolean right = f.down ? signal.rank < st.rank : signal.rank > st.rank;
        if (!right && f.erred) {
            dropped++;
            reset(a);
            return;
        }
        if (f.goal == a) {
            st.delivered.add(0, f.source * 1000 + f.value);
            return;
        }
        int hops = f.hops - 1;
        if (hops == 0) dropped++;
        else sendOn(a, f.source, f.goal, hops, f.value, f.erred || !right);
    }

    void stepFive(int a) {
        Station st = stations[a];
        if (st.timer) {
            st.clock++;
            if (st.clock == st.point && st.count < redundant && !holds(st, Kind.ADVERT)) {
                queue(a, plain(Kind.ADVERT, null));
            }
            if (st.clock == st.interval) {
                st.interval = Math.min(64, st.interval * 2);
                begin(st);
            }
        }
        if (a != 0 && st.rank == 255 && now % 16 == 0 && !holds(st, Kind.SOLICIT)) {
            queue(a, plain(Kind.SOLICIT, null));
        }
        if (st.parent != null && now % 64 == 0) {
            st.number[a]++;
            queue(a, allGoals(a, st.parent, false));
        }
    }

    static boolean holds(Station st, Kind kind) {
        return st.queue.stream().anyMatch(f -> f.kind == kind);
    }

    // ---- the face ----

    boolean link(int a, int b, int c) {
        if (a < 0 || a > 6 || b < 0 || b > 6 || a == b || c < 0 || c > 9) return false;
        cost[a][b] = c;
        cost[b][a] = c;
        return true;
    }

    boolean kill(int a) {
        if (a < 1 || a > 6 || stations[a].dead) return false;
        Station st = stations[a];
        st.dead = true;
        st.queue.clear();
        st.owes = null;
        st.listensFor = null;
        return true;
    }

    int repair() {
        int version = ++stations[0].version;
        reset(0);
        return version;
    }

    int send(int a, int goal, int hops, int value) {
        boolean good = a >= 0 && a <= 6 && goal >= 0 && goal <= 6 && a != goal
                && hops >= 1 && hops <= 15 && value >= 0 && value <= 999;
        if (!good || stations[a].dead) return -1;
        sent++;
        sendOn(a, a, goal, hops, value, false);
        return sent;
    }

    int tick(int n) {
        if (n < 0 || n > 100) return -1;
        for (int i = 0; i < n; i++) oneTick();
        return now;
    }

    int node(int a, int what) {
        if (a < 0 || a > 6 || what < 0 || what > 12) return -1;
        Station st = stations[a];
        boolean none = st.queue.isEmpty();
        int state = st.dead ? 1 : st.listensFor != null ? 2 : st.owes != null ? 3 : 0;
        int[] all = {st.rank, st.parent == null ? 0 : st.parent + 1, st.version, st.interval,
            st.clock, st.count, st.queue.size(), none ? 0 : st.wait, none ? 0 : st.busy,
            none ? 0 : st.tries, st.least, state, st.number[a]};
        return all[what];
    }

    int next(int a, int goal) {
        if (a < 0 || a > 6) return 0;
        Integer via = stations[a].next.get(goal);
        return via == null ? 0 : via + 1;
    }

    int known(int a, int b) {
        if (a < 0 || a > 6) return 0;
        return stations[a].known.getOrDefault(b, 0);
    }

    int delivered(int a, int k) {
        if (a < 0 || a > 6) return 0;
        List<Integer> all = stations[a].delivered;
        if (k == -1) return all.size();
        return k < 0 || k > 7 || k >= all.size() ? 0 : all.get(k);
    }

    int count(int what) {
        int all = 0;
        for (Station st : stations) all += st.delivered.size();
        return what == 0 ? dropped : what == 1 ? all : what == 2 ? aired : 0;
    }
}
