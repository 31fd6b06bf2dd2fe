/** A mesh under test with names for what can be seen of it, and steps that lead it to an edge. */
final class Scene {
    static final int LISTENS = 2;
    static final int OWES = 3;

    final Mesh mesh;

    /** Links are given as a, b, cost, a, b, cost .. */
    Scene(int seed, int rise, int redundant, int... links) {
        mesh = new Mesh(seed, rise, redundant);
        link(links);
    }

    Scene link(int... links) {
        for (int i = 0; i < links.length; i += 3) {
            mesh.link(links[i], links[i + 1], links[i + 2]);
        }
        return this;
    }

    Scene ticks(int n) {
        for (int rest = n; rest > 0; rest -= 100) {
            mesh.tick(Math.min(100, rest));
        }
        return this;
    }

    int rank(int a) {
        return mesh.node(a, 0);
    }

    /** -1 for none. */
    int parent(int a) {
        return mesh.node(a, 1) - 1;
    }

    int version(int a) {
        return mesh.node(a, 2);
    }

    int interval(int a) {
        return mesh.node(a, 3);
    }

    int clock(int a) {
        return mesh.node(a, 4);
    }

    int counted(int a) {
        return mesh.node(a, 5);
    }

    int queue(int a) {
        return mesh.node(a, 6);
    }

    int waits(int a) {
        return mesh.node(a, 7);
    }

    int busy(int a) {
        return mesh.node(a, 8);
    }

    int tries(int a) {
        return mesh.node(a, 9);
    }

    int least(int a) {
        return mesh.node(a, 10);
    }

    boolean dead(int a) {
        return mesh.node(a, 11) == 1;
    }

    boolean listens(int a) {
        return mesh.node(a, 11) == LISTENS;
    }

    boolean owes(int a) {
        return mesh.node(a, 11) == OWES;
    }

    int number(int a) {
        return mesh.node(a, 12);
    }

    int dropped() {
        return mesh.count(0);
    }

    int aired() {
        return mesh.count(2);
    }

    int now() {
        return mesh.tick(0);
    }

    /** Ticks until what of node a is as due: whether it came so far. */
    boolean until(int a, int what, int due) {
        for (int i = 0; i < 400 && mesh.node(a, what) != due; i++) {
            mesh.tick(1);
        }
        return mesh.node(a, what) == due;
    }

    /** Ticks until the number of the last tick, modulo n, is as due. */
    void untilNow(int n, int due) {
        for (int i = 0; i < n && now() % n != due; i++) {
            mesh.tick(1);
        }
    }

    private boolean isStill(int ticks) {
        for (int a = 0; a < 7; a++) {
            if (!mesh.isLinked(a)) {
                continue;
            }
            boolean open = queue(a) > 0 || listens(a) || owes(a);
            boolean soon = !dead(a) && clock(a) + ticks >= interval(a) / 2;
            boolean solicits = a > 0 && !dead(a) && rank(a) == 255 && now() % 16 + ticks >= 16;
            if (open || soon || solicits) {
                return false;
            }
        }
        return now() % 64 + ticks < 64;
    }

    /** Ticks until the linked nodes have nothing under way, and no timer of theirs will queue anything for so long. */
    boolean still(int ticks) {
        for (int i = 0; i < 600 && !isStill(ticks + 1); i++) {
            mesh.tick(1);
        }
        boolean still = isStill(ticks + 1);
        // The last acknowledgement may have been on the air just now.
        mesh.tick(1);
        return still;
    }

    /** Kills all nodes that are linked with none: they would solicit, and draw. */
    Scene withoutOthers() {
        for (int a = 1; a < 7; a++) {
            if (!mesh.isLinked(a)) {
                mesh.kill(a);
            }
        }
        return this;
    }

    /** Ticks until node a is on the air with its first frame in the next tick, if the air seems quiet. */
    boolean ready(int a) {
        for (int i = 0; i < 200 && queue(a) > 0 && (waits(a) > 0 || listens(a) || owes(a)); i++) {
            mesh.tick(1);
        }
        return queue(a) > 0 && waits(a) == 0 && !listens(a) && !owes(a);
    }

    /** Cuts all links of node a. */
    void cut(int a) {
        for (int b = 0; b < 7; b++) {
            mesh.link(a, b, 0);
        }
    }

    /** One that is linked with none and was on the air in the last tick with a frame to one node, or -1. */
    int lastSpeaker() {
        for (int x = 6; x > 0; x--) {
            if (listens(x)) {
                return x;
            }
        }
        return -1;
    }

    /**
     * Fills the queues of the nodes from x on, cut off from all others, with values for the root: they
     * are on the air in most ticks from now on, for as long as their tries last.
     */
    void chatter(int x) {
        for (int a = x; a < 7; a++) {
            cut(a);
            for (int i = 0; i < 4; i++) {
                mesh.send(a, 0, 15, i);
            }
        }
    }

    /** One tick in which node a, done with waiting, finds the air busy: whether there was one to make it so. */
    boolean oneBusyTick(int a) {
        int x = lastSpeaker();
        if (x < 0 || x == a) {
            return false;
        }
        mesh.link(a, x, 9);
        mesh.tick(1);
        mesh.link(a, x, 0);
        return true;
    }

    /** Lets node a, linked with none, find the air busy until BUSY is as due: whether it came so far. */
    boolean makeBusy(int a, int due) {
        while (busy(a) < due) {
            if (!ready(a) || !oneBusyTick(a)) {
                return false;
            }
        }
        return busy(a) == due;
    }

    /** What can be seen of a node before the tick that changes it. */
    record Past(int rank, int parent, int interval, int clock, int counted, int queue, int number, int least) { }

    Past past(int a) {
        return new Past(rank(a), parent(a), interval(a), clock(a), counted(a), queue(a), number(a), least(a));
    }

    /** Ticks until rank, parent or version of node a is another: what was before that tick, or null if none came. */
    Past untilChange(int a) {
        for (int i = 0; i < 300; i++) {
            Past past = past(a);
            int version = version(a);
            mesh.tick(1);
            if (rank(a) != past.rank || parent(a) != past.parent || version(a) != version) {
                return past;
            }
        }
        return null;
    }

    /**
     * Ticks until node a, with nothing else queued, is on the air with an ADVERT in the next tick, if the air
     * seems quiet. A SOLICIT or ANNOUNCE would come in a multiple of 16 or at the begin of an interval.
     */
    boolean untilAdvert(int a) {
        for (int i = 0; i < 300; i++) {
            boolean none = queue(a) == 0;
            mesh.tick(1);
            boolean late = clock(a) * 2 >= interval(a) && now() % 16 != 0;
            if (none && queue(a) == 1 && late) {
                return ready(a) && queue(a) == 1 && busy(a) == 0;
            }
        }
        return false;
    }

    /** Ticks until node a, that never had a rank, is on the air with a SOLICIT in the next tick. */
    boolean untilSolicit(int a) {
        untilNow(16, 15);
        mesh.tick(1);
        return rank(a) == 255 && queue(a) == 1 && ready(a) && busy(a) == 0;
    }

    /** One tick in which nodes a and b are linked; whether the one that was ready was on the air. */
    boolean tickLinked(int a, int b, int cost) {
        int aired = aired();
        mesh.link(a, b, cost);
        mesh.tick(1);
        mesh.link(a, b, 0);
        return aired() == aired + 1;
    }
}
