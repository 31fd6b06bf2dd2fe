import java.util.ArrayList;
import java.util.List;

/**
 * The class under test, kept to what it promises: an object is used for at most 512 calls. When a test
 * asks for more, a new object is led to the same place, with ticks joined and looks left out, and
 * answers in its stead.
 */
final class Mesh {
    private static final int MOST_CALLS = 512;

    private enum Kind { LINK, KILL, REPAIR, SEND, TICK }

    private record Deed(Kind kind, int a, int b, int c, int d) { }

    private final int seed;
    private final int rise;
    private final int redundant;
    private final List<Deed> deeds = new ArrayList<>();
    private final int[][] costs = new int[7][7];
    private TrickleMesh mesh;
    private int calls;

    Mesh(int seed, int rise, int redundant) {
        this.seed = seed;
        this.rise = rise;
        this.redundant = redundant;
        mesh = new TrickleMesh(seed, rise, redundant);
    }

    private TrickleMesh forOneCall() {
        if (calls == MOST_CALLS) {
            mesh = new TrickleMesh(seed, rise, redundant);
            calls = 0;
            for (Deed deed : deeds) {
                repeat(deed);
                calls++;
            }
        }
        if (calls >= MOST_CALLS) {
            throw new IllegalStateException("the test itself does more than 512 calls");
        }
        calls++;
        return mesh;
    }

    private void repeat(Deed deed) {
        switch (deed.kind) {
            case LINK -> mesh.link(deed.a, deed.b, deed.c);
            case KILL -> mesh.kill(deed.a);
            case REPAIR -> mesh.repair();
            case SEND -> mesh.send(deed.a, deed.b, deed.c, deed.d);
            case TICK -> mesh.tick(deed.a);
        }
    }

    private void note(Kind kind, int a, int b, int c, int d) {
        deeds.add(new Deed(kind, a, b, c, d));
    }

    /** Whether node a is linked with any: nobody hears one that is not. */
    boolean isLinked(int a) {
        for (int cost : costs[a]) {
            if (cost > 0) {
                return true;
            }
        }
        return false;
    }

    boolean link(int a, int b, int cost) {
        boolean done = forOneCall().link(a, b, cost);
        boolean inside = Math.min(a, b) >= 0 && Math.max(a, b) < 7;
        if (!done || !inside || costs[a][b] != cost) {
            note(Kind.LINK, a, b, cost, 0);
        }
        if (done && inside) {
            costs[a][b] = cost;
            costs[b][a] = cost;
        }
        return done;
    }

    boolean kill(int a) {
        boolean done = forOneCall().kill(a);
        note(Kind.KILL, a, 0, 0, 0);
        return done;
    }

    int repair() {
        int version = forOneCall().repair();
        note(Kind.REPAIR, 0, 0, 0, 0);
        return version;
    }

    int send(int a, int goal, int hops, int value) {
        int sent = forOneCall().send(a, goal, hops, value);
        note(Kind.SEND, a, goal, hops, value);
        return sent;
    }

    int tick(int n) {
        int number = forOneCall().tick(n);
        Deed last = deeds.isEmpty() ? null : deeds.get(deeds.size() - 1);
        if (n > 0 && last != null && last.kind == Kind.TICK && last.a > 0 && last.a <= 100 - n) {
            deeds.set(deeds.size() - 1, new Deed(Kind.TICK, last.a + n, 0, 0, 0));
        } else if (n != 0) {
            note(Kind.TICK, n, 0, 0, 0);
        }
        return number;
    }

    int node(int a, int what) {
        return forOneCall().node(a, what);
    }

    int next(int a, int goal) {
        return forOneCall().next(a, goal);
    }

    int known(int a, int b) {
        return forOneCall().known(a, b);
    }

    int delivered(int a, int k) {
        return forOneCall().delivered(a, k);
    }

    int count(int what) {
        return forOneCall().count(what);
    }
}
