import java.util.Random;

/** Long mixed runs of calls, each answer held against PlainMesh, and all that can be seen after it. */
public final class ModelTest {
    private static final Due DUE = new Due();

    public static void main(String[] args) {
        for (int run = 0; run < 1500; run++) {
            oneRun(new Random(run), run);
        }
        for (int run = 0; run < 900; run++) {
            oneFlickeringRun(new Random(run), run);
        }
        DUE.end("ModelTest");
    }

    private static void oneRun(Random random, int run) {
        int seed = random.nextInt();
        int rise = random.nextInt(3) == 0 ? random.nextInt(400) - 100 : random.nextInt(30);
        int redundant = random.nextInt(3) == 0 ? random.nextInt(40) - 10 : 1 + random.nextInt(4);
        Mesh mesh = new Mesh(seed, rise, redundant);
        PlainMesh model = new PlainMesh(seed, rise, redundant);
        int longest = 1 + random.nextInt(random.nextInt(4) == 0 ? 100 : 12);
        boolean loopy = random.nextInt(4) == 0;
        int links = 4 + random.nextInt(14);
        for (int i = 0; i < links; i++) {
            oneLink(mesh, model, random, run);
        }
        for (int i = 0; i < 150; i++) {
            oneCall(mesh, model, random, run, longest, loopy);
            if (longest < 4 || i % 8 == 0) {
                seeAll(mesh, model, run);
            }
        }
        seeAll(mesh, model, run);
    }

    /**
     * Links that come and go between single ticks: the only way to lose an acknowledgement, since
     * all who could drown it find the air busy.
     */
    private static void oneFlickeringRun(Random random, int run) {
        int seed = random.nextInt();
        Mesh mesh = new Mesh(seed, 60, 3);
        PlainMesh model = new PlainMesh(seed, 60, 3);
        for (int i = 0; i < 170; i++) {
            int a = random.nextInt(4);
            int b = random.nextInt(4);
            int cost = random.nextInt(3) == 0 ? 0 : 1 + random.nextInt(3);
            mesh.link(a, b, cost);
            model.link(a, b, cost);
            if (random.nextInt(5) == 0) {
                mesh.send(a, b, 15, i);
                model.send(a, b, 15, i);
            }
            int n = random.nextInt(20) == 0 ? 15 : 1;
            DUE.is("flickering run " + run + ": tick(" + n + ")", mesh.tick(n), model.tick(n));
            if (i % 10 == 0) {
                seeAll(mesh, model, run);
            }
        }
    }

    private static int some(Random random, int low, int high) {
        return random.nextInt(30) == 0 ? (random.nextBoolean() ? low - 1 - random.nextInt(3)
            : high + 1 + random.nextInt(3)) : low + random.nextInt(high - low + 1);
    }

    private static void oneLink(Mesh mesh, PlainMesh model, Random random, int run) {
        int a = some(random, 0, 6);
        int b = some(random, 0, 6);
        int cost = some(random, random.nextInt(3) == 0 ? 0 : 1, 9);
        DUE.is("run " + run + ": link(" + a + ", " + b + ", " + cost + ")",
            mesh.link(a, b, cost), model.link(a, b, cost));
    }

    private static void oneCall(Mesh mesh, PlainMesh model, Random random, int run, int longest, boolean loopy) {
        int kind = random.nextInt(100);
        if (kind < 50) {
            int n = random.nextInt(40) == 0 ? some(random, 0, 100) : random.nextInt(longest + 1);
            DUE.is("run " + run + ": tick(" + n + ")", mesh.tick(n), model.tick(n));
        } else if (kind < 88) {
            int a = some(random, 0, 6);
            int goal = some(random, 0, 6);
            int hops = random.nextInt(3) == 0 ? 15 : some(random, 1, 15);
            int value = some(random, 0, 999);
            DUE.is("run " + run + ": send(" + a + ", " + goal + ", " + hops + ", " + value + ")",
                mesh.send(a, goal, hops, value), model.send(a, goal, hops, value));
        } else if (kind < (loopy ? 99 : 94)) {
            oneLink(mesh, model, random, run);
        } else if (kind < 97) {
            DUE.is("run " + run + ": repair()", mesh.repair(), model.repair());
        } else if (random.nextInt(6) == 0) {
            int a = some(random, 0, 6);
            DUE.is("run " + run + ": kill(" + a + ")", mesh.kill(a), model.kill(a));
        }
    }

    private static void seeAll(Mesh mesh, PlainMesh model, int run) {
        for (int a = -1; a <= 7; a++) {
            for (int what = -1; what <= 13; what++) {
                DUE.is("run " + run + ": node(" + a + ", " + what + ")", mesh.node(a, what), model.node(a, what));
            }
            for (int b = -1; b <= 7; b++) {
                DUE.is("run " + run + ": next(" + a + ", " + b + ")", mesh.next(a, b), model.next(a, b));
                DUE.is("run " + run + ": known(" + a + ", " + b + ")", mesh.known(a, b), model.known(a, b));
            }
            for (int k = -2; k <= 8; k++) {
                DUE.is("run " + run + ": delivered(" + a + ", " + k + ")", mesh.delivered(a, k), model.delivered(a, k));
            }
        }
        for (int what = -1; what <= 3; what++) {
            DUE.is("run " + run + ": count(" + what + ")", mesh.count(what), model.count(what));
        }
    }
}
