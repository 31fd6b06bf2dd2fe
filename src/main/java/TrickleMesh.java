import java.util.Arrays;

/** A mesh of seven radio nodes that finds its routes by itself, tick by tick. */
public final class TrickleMesh {
    public static final int BAD = -1;

    private static final int NODES = 7;
    private static final int ROOT = 0;
    private static final int NONE = -1;

    private static final int INFINITE = 255;
    private static final int MOST_RANK = 254;
    private static final int MOST_RISE = 200;
    private static final int MOST_REDUNDANT = 9;
    private static final int MOST_COST = 9;
    private static final int MOST_HOPS = 15;
    private static final int MOST_VALUE = 999;
    private static final int MOST_TICKS = 100;

    private static final int QUEUE_ROOM = 4;
    private static final int FIRST_WAIT = 4;
    private static final int MOST_WAIT = 32;
    private static final int BUSY_FAILS = 5;
    private static final int TRIES_FAIL = 4;

    private static final int LEAST_INTERVAL = 4;
    private static final int MOST_INTERVAL = 64;
    private static final int SOLICIT_EVERY = 16;
    private static final int ANNOUNCE_EVERY = 64;

    private static final int KEPT_VALUES = 8;
    private static final int SOURCE_FACTOR = 1000;

    private static final int SOLICIT = 1;
    private static final int ADVERT = 2;
    private static final int ANNOUNCE = 3;
    private static final int VALUE = 4;

    private static final int QUIET = 0;
    private static final int WITH_ACK = 1;
    private static final int WITH_FRAME = 2;

    private final int rise;
    private final int redundant;
    private final Node[] nodes = new Node[NODES];
    private final int[][] costs = new int[NODES][NODES];
    private int seed;
    private int ticks;
    private int serials;
    private int sentValues;
    private int droppedValues;
    private int deliveredValues;
    private int airedFrames;

    public TrickleMesh(int seed, int rise, int redundant) {
        this.seed = seed;
        this.rise = Math.max(0, Math.min(MOST_RISE, rise));
        this.redundant = Math.max(1, Math.min(MOST_REDUNDANT, redundant));
        for (int i = 0; i < NODES; i++) {
            nodes[i] = new Node(i);
        }
        Node root = nodes[ROOT];
        root.version = 1;
        root.rank = 1;
        root.timer.started = true;
        resetTimer(root);
    }

    // ---- the calls of the face -------------------------------------------

    public boolean link(int a, int b, int cost) {
        if (!isNode(a) || !isNode(b) || a == b || cost < 0 || cost > MOST_COST) {
            return false;
        }
        costs[a][b] = cost;
        costs[b][a] = cost;
        return true;
    }

    public boolean kill(int a) {
        if (!isNode(a) || a == ROOT || !nodes[a].alive) {
            return false;
        }
        nodes[a].alive = false;
        Radio radio = nodes[a].radio;
        radio.size = 0;
        radio.owes = NONE;
        radio.listens = false;
        return true;
    }

    public int repair() {
        Node root = nodes[ROOT];
        root.version++;
        resetTimer(root);
        return root.version;
    }

    public int send(int a, int goal, int hops, int value) {
        if (!isNode(a) || !isNode(goal) || a == goal || !nodes[a].alive) {
            return BAD;
        }
        if (hops < 1 || hops > MOST_HOPS || value < 0 || value > MOST_VALUE) {
            return BAD;
        }
        sentValues++;
        sendOn(nodes[a], a, goal, hops, value, false);
        return sentValues;
    }

    public int tick(int n) {
        if (n < 0 || n > MOST_TICKS) {
            return BAD;
        }
        for (int i = 0; i < n; i++) {
            ticks++;
            rememberTheAir();
            goOnTheAir();
            hearTheAir();
            takeWhatWasHeard();
            settleWhatWasOnTheAir();
            settleWhatWasListenedFor();
            runTimers();
        }
        return ticks;
    }

    public int node(int a, int what) {
        if (!isNode(a)) {
            return BAD;
        }
        Node node = nodes[a];
        Radio radio = node.radio;
        boolean first = radio.size > 0;
        switch (what) {
            case 0: return node.rank;
            case 1: return node.parent + 1;
            case 2: return node.version;
            case 3: return node.timer.interval;
            case 4: return node.timer.clock;
            case 5: return node.timer.count;
            case 6: return radio.size;
            case 7: return first ? radio.wait : 0;
            case 8: return first ? radio.busy : 0;
            case 9: return first ? radio.tries : 0;
            case 10: return node.least;
            case 11: return condition(node);
            case 12: return node.numbers[a];
            default: return BAD;
        }
    }

    public int next(int a, int goal) {
        return isNode(a) && isNode(goal) ? nodes[a].nexts[goal] + 1 : 0;
    }

    public int known(int a, int b) {
        return isNode(a) && isNode(b) ? nodes[a].ranks[b] : 0;
    }

    public int delivered(int a, int k) {
        if (!isNode(a)) {
            return 0;
        }
        Node node = nodes[a];
        if (k == -1) {
            return node.arrived;
        }
        if (k < 0 || k >= KEPT_VALUES || k >= node.arrived) {
            return 0;
        }
        return node.arrivals[(node.arrived - 1 - k) % KEPT_VALUES];
    }

    public int count(int what) {
        switch (what) {
            case 0: return droppedValues;
            case 1: return deliveredValues;
            case 2: return airedFrames;
            default: return 0;
        }
    }

    private static boolean isNode(int a) {
        return a >= 0 && a < NODES;
    }

    private static int condition(Node node) {
        if (!node.alive) {
            return 1;
        }
        if (node.radio.listens) {
            return 2;
        }
        return node.radio.owes != NONE ? 3 : 0;
    }

    private int draw(int n) {
        seed = seed * 1103515245 + 12345;
        return n > 0 ? (seed >>> 16) % n : 0;
    }

    // ---- queues ----------------------------------------------------------

    /** The new last frame of the queue, to be filled in, or null when there is no room for it. */
    private Frame enqueue(Node node, int kind, int to) {
        Radio radio = node.radio;
        if (radio.size >= QUEUE_ROOM) {
            return null;
        }
        Frame frame = radio.frames[radio.size];
        radio.size++;
        serials++;
        frame.serial = serials;
        frame.kind = kind;
        frame.to = to;
        if (radio.size == 1) {
            radio.beginFirst(draw(FIRST_WAIT));
        }
        return frame;
    }

    private void enqueueOnce(Node node, int kind) {
        for (int i = 0; i < node.radio.size; i++) {
            if (node.radio.frames[i].kind == kind) {
                return;
            }
        }
        enqueue(node, kind, NONE);
    }

    private void removeFirst(Radio radio) {
        // The frame that leaves goes behind the others, to be used again: a tick makes no objects.
        Frame gone = radio.frames[0];
        for (int i = 1; i < QUEUE_ROOM; i++) {
            radio.frames[i - 1] = radio.frames[i];
        }
        radio.frames[QUEUE_ROOM - 1] = gone;
        radio.size--;
        if (radio.size > 0) {
            radio.beginFirst(draw(FIRST_WAIT));
        }
    }

    private void failFirst(Node node) {
        Frame frame = node.radio.frames[0];
        int to = frame.to;
        if (frame.kind == VALUE) {
            droppedValues++;
        }
        removeFirst(node.radio);
        if (to == NONE) {
            return;
        }
        for (int goal = 0; goal < NODES; goal++) {
            if (node.nexts[goal] == to) {
                node.nexts[goal] = NONE;
            }
        }
        if (node.parent == to) {
            node.ranks[to] = 0;
            choose(node);
        }
    }

    // ---- the steps of a tick ---------------------------------------------

    private void rememberTheAir() {
        for (int a = 0; a < NODES; a++) {
            Radio radio = nodes[a].radio;
            radio.wasOnAir = radio.air != QUIET;
            radio.air = QUIET;
        }
    }

    // The dead owe nothing and their queues are empty, so they need no test of their own here.
    private void goOnTheAir() {
        for (int a = 0; a < NODES; a++) {
            Node node = nodes[a];
            Radio radio = node.radio;
            if (radio.owes != NONE) {
                radio.air = WITH_ACK;
                radio.ackTo = radio.owes;
                radio.owes = NONE;
            } else if (radio.listens || radio.size == 0) {
                continue;
            } else if (radio.wait > 0) {
                radio.wait--;
            } else if (!seemsBusy(node)) {
                radio.air = WITH_FRAME;
                airedFrames++;
            } else {
                radio.busy++;
                if (radio.busy == BUSY_FAILS) {
                    failFirst(node);
                } else {
                    radio.wait = draw(Math.min(MOST_WAIT, FIRST_WAIT << radio.busy));
                }
            }
        }
    }

    private boolean seemsBusy(Node node) {
        for (int b = 0; b < NODES; b++) {
            if (costs[node.id][b] > 0 && nodes[b].radio.wasOnAir) {
                return true;
            }
        }
        return false;
    }

    private void hearTheAir() {
        for (int a = 0; a < NODES; a++) {
            Node node = nodes[a];
            boolean open = node.alive && node.radio.air == QUIET;
            node.radio.hears = open ? onlySpeaker(a) : NONE;
        }
    }

    private int onlySpeaker(int a) {
        int speaker = NONE;
        for (int b = 0; b < NODES; b++) {
            if (costs[a][b] > 0 && nodes[b].radio.air != QUIET) {
                if (speaker != NONE) {
                    return NONE;
                }
                speaker = b;
            }
        }
        return speaker;
    }

    // A node on the air hears nothing, so what it bears (its frame, its version, its rank)
    // stays as it was when it went on the air, until all others have taken it.
    private void takeWhatWasHeard() {
        for (int a = 0; a < NODES; a++) {
            int hears = nodes[a].radio.hears;
            if (hears == NONE) {
                continue;
            }
            Node node = nodes[a];
            Node sender = nodes[hears];
            if (sender.radio.air == WITH_ACK) {
                takeAck(node, sender);
                continue;
            }
            Frame frame = sender.radio.frames[0];
            if (frame.kind == SOLICIT) {
                takeSolicit(node);
            } else if (frame.kind == ADVERT) {
                takeAdvert(node, sender);
            } else if (frame.to == a) {
                takeOwn(node, sender, frame);
            }
        }
    }

    private void settleWhatWasOnTheAir() {
        for (int a = 0; a < NODES; a++) {
            Radio radio = nodes[a].radio;
            if (radio.air != WITH_FRAME) {
                continue;
            }
            if (radio.frames[0].to == NONE) {
                removeFirst(radio);
            } else {
                radio.listens = true;
            }
        }
    }

    private void settleWhatWasListenedFor() {
        for (int a = 0; a < NODES; a++) {
            Radio radio = nodes[a].radio;
            // One that was on the air in this tick listens in the next one only.
            if (!radio.listens || radio.air != QUIET) {
                continue;
            }
            radio.listens = false;
            radio.tries++;
            if (radio.tries == TRIES_FAIL) {
                failFirst(nodes[a]);
            } else {
                radio.busy = 0;
                radio.wait = draw(FIRST_WAIT);
            }
        }
    }

    private void runTimers() {
        for (int a = 0; a < NODES; a++) {
            Node node = nodes[a];
            if (!node.alive) {
                continue;
            }
            if (node.timer.started) {
                runTimer(node);
            }
            if (a != ROOT && node.rank == INFINITE && ticks % SOLICIT_EVERY == 0) {
                enqueueOnce(node, SOLICIT);
            }
            if (node.parent != NONE && ticks % ANNOUNCE_EVERY == 0) {
                node.numbers[a]++;
                announce(node, ownGoals(node), node.parent, false);
            }
        }
    }

    // ---- timers ----------------------------------------------------------

    private void runTimer(Node node) {
        Timer timer = node.timer;
        timer.clock++;
        if (timer.clock == timer.point && timer.count < redundant) {
            enqueueOnce(node, ADVERT);
        }
        if (timer.clock == timer.interval) {
            beginInterval(timer, Math.min(MOST_INTERVAL, timer.interval * 2));
        }
    }

    private void resetTimer(Node node) {
        if (node.timer.started && node.timer.interval != LEAST_INTERVAL) {
            beginInterval(node.timer, LEAST_INTERVAL);
        }
    }

    private void beginInterval(Timer timer, int interval) {
        int half = interval / 2;
        timer.interval = interval;
        timer.clock = 0;
        timer.count = 0;
        timer.point = half + draw(half);
    }

    // ---- taking frames ---------------------------------------------------

    private void takeAck(Node node, Node sender) {
        Radio radio = node.radio;
        boolean mine = sender.radio.ackTo == node.id;
        if (mine && radio.listens && radio.frames[0].to == sender.id) {
            radio.listens = false;
            removeFirst(radio);
        }
    }

    private void takeSolicit(Node node) {
        if (node.id == ROOT || node.rank != INFINITE) {
            resetTimer(node);
        }
    }

    private void takeAdvert(Node node, Node sender) {
        if (sender.version < node.version) {
            resetTimer(node);
            return;
        }
        if (sender.version > node.version && node.id != ROOT) {
            takeVersion(node, sender.version);
        }
        node.ranks[sender.id] = sender.rank;
        int rank = node.rank;
        int parent = node.parent;
        if (node.id != ROOT) {
            choose(node);
        }
        if (node.rank == rank && node.parent == parent) {
            node.timer.count++;
        }
    }

    private void takeVersion(Node node, int version) {
        boolean placed = node.parent != NONE || node.rank != INFINITE;
        node.version = version;
        Arrays.fill(node.ranks, 0);
        node.least = INFINITE;
        if (placed) {
            node.rank = INFINITE;
            node.parent = NONE;
            resetTimer(node);
        }
    }

    private void takeOwn(Node node, Node sender, Frame frame) {
        node.radio.owes = sender.id;
        if (node.received[sender.id] == frame.serial) {
            return;
        }
        node.received[sender.id] = frame.serial;
        if (frame.kind == ANNOUNCE) {
            receiveAnnounce(node, sender.id, frame);
        } else {
            receiveValue(node, sender.rank, frame);
        }
    }

    // ---- ranks -----------------------------------------------------------

    private void choose(Node node) {
        int oldRank = node.rank;
        int oldParent = node.parent;
        int best = bestParent(node);
        int sum = best == NONE ? INFINITE : rankBelow(node, best);
        if (sum > MOST_RANK || sum > node.least + rise) {
            best = NONE;
            sum = INFINITE;
        }
        node.rank = sum;
        node.parent = best;
        node.least = Math.min(node.least, sum);
        if (sum != INFINITE) {
            node.timer.started = true;
        }
        if (sum != oldRank || best != oldParent) {
            resetTimer(node);
        }
        if (best != oldParent && oldParent != NONE) {
            announce(node, ownGoals(node), oldParent, true);
        }
        if (best != oldParent && best != NONE) {
            node.numbers[node.id]++;
            announce(node, ownGoals(node), best, false);
        }
    }

    private int bestParent(Node node) {
        int best = NONE;
        for (int b = 0; b < NODES; b++) {
            boolean open = costs[node.id][b] > 0 && node.ranks[b] != 0 && node.ranks[b] != INFINITE;
            if (open && (best == NONE || isBetter(node, b, best))) {
                best = b;
            }
        }
        return best;
    }

    private boolean isBetter(Node node, int b, int best) {
        int more = rankBelow(node, b) - rankBelow(node, best);
        return more < 0 || more == 0 && b == node.parent;
    }

    private int rankBelow(Node node, int b) {
        return node.ranks[b] + costs[node.id][b];
    }

    // ---- routes ----------------------------------------------------------

    private static int ownGoals(Node node) {
        int goals = 1 << node.id;
        for (int goal = 0; goal < NODES; goal++) {
            if (node.nexts[goal] != NONE) {
                goals |= 1 << goal;
            }
        }
        return goals;
    }

    private void announce(Node node, int goals, int to, boolean withdrawal) {
        Frame frame = enqueue(node, ANNOUNCE, to);
        if (frame == null) {
            return;
        }
        frame.goals = goals;
        frame.withdrawal = withdrawal;
        System.arraycopy(node.numbers, 0, frame.numbers, 0, NODES);
    }

    private void receiveAnnounce(Node node, int from, Frame frame) {
        int changed = 0;
        for (int goal = 0; goal < NODES; goal++) {
            boolean borne = (frame.goals >> goal & 1) == 1 && goal != node.id;
            if (borne && changeRoute(node, goal, from, frame)) {
                changed |= 1 << goal;
            }
        }
        if (changed != 0 && node.parent != NONE) {
            announce(node, changed, node.parent, frame.withdrawal);
        }
    }

    private static boolean changeRoute(Node node, int goal, int from, Frame frame) {
        int number = frame.numbers[goal];
        if (number < node.numbers[goal] || frame.withdrawal && node.nexts[goal] != from) {
            return false;
        }
        int next = frame.withdrawal ? NONE : from;
        boolean changed = number != node.numbers[goal] || next != node.nexts[goal];
        node.numbers[goal] = number;
        node.nexts[goal] = next;
        return changed;
    }

    // ---- values ----------------------------------------------------------

    private void sendOn(Node node, int source, int goal, int hops, int value, boolean erred) {
        boolean down = node.nexts[goal] != NONE;
        int to = down ? node.nexts[goal] : node.parent;
        Frame frame = to == NONE ? null : enqueue(node, VALUE, to);
        if (frame == null) {
            droppedValues++;
            return;
        }
        frame.source = source;
        frame.goal = goal;
        frame.hops = hops;
        frame.value = value;
        frame.down = down;
        frame.erred = erred;
    }

    private void receiveValue(Node node, int senderRank, Frame frame) {
        boolean wrong = frame.down ? senderRank >= node.rank : senderRank <= node.rank;
        if (wrong && frame.erred) {
            droppedValues++;
            resetTimer(node);
        } else if (frame.goal == node.id) {
            deliver(node, frame);
        } else if (frame.hops <= 1) {
            droppedValues++;
        } else {
            sendOn(node, frame.source, frame.goal, frame.hops - 1, frame.value, wrong || frame.erred);
        }
    }

    private void deliver(Node node, Frame frame) {
        node.arrivals[node.arrived % KEPT_VALUES] = SOURCE_FACTOR * frame.source + frame.value;
        node.arrived++;
        deliveredValues++;
    }

    // ---- what is kept ----------------------------------------------------

    private static final class Node {
        final int id;
        final Radio radio = new Radio();
        final Timer timer = new Timer();
        /** The ranks of other nodes that it knows; 0 where it knows none. */
        final int[] ranks = new int[NODES];
        final int[] nexts = new int[NODES];
        /** The numbers of all goals; its own one stands at its own place. */
        final int[] numbers = new int[NODES];
        /** The serial of the frame that it received last, of each sender. */
        final int[] received = new int[NODES];
        final int[] arrivals = new int[KEPT_VALUES];
        int arrived;
        boolean alive = true;
        int version;
        int rank = INFINITE;
        int parent = NONE;
        int least = INFINITE;

        Node(int id) {
            this.id = id;
            Arrays.fill(nexts, NONE);
        }
    }

    private static final class Radio {
        final Frame[] frames = new Frame[QUEUE_ROOM];
        int size;
        int wait;
        int busy;
        int tries;
        int air = QUIET;
        boolean wasOnAir;
        int ackTo = NONE;
        int owes = NONE;
        boolean listens;
        int hears = NONE;

        Radio() {
            for (int i = 0; i < QUEUE_ROOM; i++) {
                frames[i] = new Frame();
            }
        }

        void beginFirst(int firstWait) {
            busy = 0;
            tries = 0;
            wait = firstWait;
        }
    }

    private static final class Timer {
        boolean started;
        int interval = MOST_INTERVAL;
        int clock;
        int point;
        int count;
    }

    /** A frame in a queue; which of its fields count, its kind tells. */
    private static final class Frame {
        int serial;
        int kind;
        int to = NONE;
        int goals;
        boolean withdrawal;
        final int[] numbers = new int[NODES];
        int source;
        int goal;
        int hops;
        int value;
        boolean down;
        boolean erred;
    }
}
