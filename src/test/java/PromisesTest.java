/** Promises 1 to 11, one method each: ordinary inputs, the edges that the document names, wrong inputs. */
public final class PromisesTest {
    private static final Due DUE = new Due();
    private static final int[] NO_NODES = {-1, 7, Integer.MIN_VALUE, Integer.MAX_VALUE};

    public static void main(String[] args) {
        aNewObject();
        theRootsFirstAdvertFollowsTheSeed();
        riseIsTheNearestNumber();
        redundantIsTheNearestNumber();
        link();
        kill();
        repair();
        send();
        tick();
        node();
        next();
        known();
        delivered();
        count();
        DUE.end("PromisesTest");
    }

    /** 0 - 1 - 2 in a row, with all ranks and routes made. */
    private static Mesh row() {
        Mesh mesh = new Mesh(1, 30, 2);
        mesh.link(0, 1, 2);
        mesh.link(1, 2, 3);
        mesh.tick(100);
        mesh.tick(60);
        DUE.is("row: next(0, 2)", mesh.next(0, 2), 2);
        DUE.is("row: node(2, 0)", mesh.node(2, 0), 6);
        return mesh;
    }

    private static void aNewObject() {
        Mesh mesh = new Mesh(99, 5, 1);
        int[] root = {1, 0, 1, 4, 0, 0, 0, 0, 0, 0, 255, 0, 0};
        int[] other = {255, 0, 0, 64, 0, 0, 0, 0, 0, 0, 255, 0, 0};
        for (int a = 0; a < 7; a++) {
            for (int what = 0; what < 13; what++) {
                DUE.is("new: node(" + a + ", " + what + ")", mesh.node(a, what), a == 0 ? root[what] : other[what]);
            }
            for (int b = 0; b < 7; b++) {
                DUE.is("new: next", mesh.next(a, b), 0);
                DUE.is("new: known", mesh.known(a, b), 0);
            }
            DUE.is("new: delivered", mesh.delivered(a, -1), 0);
        }
        mesh.tick(100);
        for (int a = 1; a < 7; a++) {
            DUE.is("none are linked: version of " + a, mesh.node(a, 2), 0);
            DUE.is("no timer runs: clock of " + a, mesh.node(a, 4), 0);
        }
    }

    private static void theRootsFirstAdvertFollowsTheSeed() {
        for (int seed : new int[] {0, 1, 5, -1, -12345, Integer.MAX_VALUE, Integer.MIN_VALUE}) {
            int s = seed * 1103515245 + 12345;
            int point = 2 + (s >>> 16) % 2;
            s = s * 1103515245 + 12345;
            int wait = (s >>> 16) % 4;
            Mesh mesh = new Mesh(seed, 0, 1);
            mesh.tick(point - 1);
            DUE.is("seed " + seed + ": queue before the point", mesh.node(0, 6), 0);
            mesh.tick(1);
            DUE.is("seed " + seed + ": queue at the point", mesh.node(0, 6), 1);
            DUE.is("seed " + seed + ": WAIT", mesh.node(0, 7), wait);
            mesh.tick(wait);
            DUE.is("seed " + seed + ": not on the air before", mesh.count(2), 0);
            mesh.tick(1);
            DUE.is("seed " + seed + ": on the air", mesh.count(2), 1);
            DUE.is("seed " + seed + ": done", mesh.node(0, 6), 0);
        }
    }

    /**
     * Cut off from the root, 1 and 2 raise one another as far as RISE lets them. With the cost 5
     * all the time, 1 goes up from 2 by 10 each time; with 4 after the cut, to 11, then by 8.
     */
    private static int highestRank(int rise, int laterCost) {
        Mesh mesh = new Mesh(3, rise, 9);
        mesh.link(0, 1, 1);
        mesh.link(1, 2, 5);
        mesh.tick(100);
        DUE.is("rise " + rise + ": rank before the cut", mesh.node(1, 0), 2);
        mesh.link(0, 1, 0);
        mesh.link(1, 2, laterCost);
        int highest = 0;
        for (int i = 0; i < 20; i++) {
            mesh.send(1, 0, 15, 1);
            for (int k = 0; k < 100; k++) {
                mesh.tick(1);
                highest = mesh.node(1, 0) == 255 ? highest : Math.max(highest, mesh.node(1, 0));
            }
        }
        DUE.is("rise " + rise + ": rank in the end", mesh.node(1, 0), 255);
        return highest;
    }

    private static void riseIsTheNearestNumber() {
        DUE.is("rise 200", highestRank(200, 5), 202);
        DUE.is("rise 199", highestRank(199, 5), 192);
        DUE.is("rise greatest", highestRank(Integer.MAX_VALUE, 5), 202);
        DUE.is("rise 193", highestRank(193, 4), 195);
        DUE.is("rise 192", highestRank(192, 4), 187);
        DUE.is("rise 201 is 200, and 203 is out of reach", highestRank(201, 4), 195);
        DUE.is("rise 10", highestRank(10, 5), 12);
        DUE.is("rise 9", highestRank(9, 5), 2);
        DUE.is("rise 0", highestRank(0, 5), 2);
        DUE.is("rise -1", highestRank(-1, 5), 2);
        DUE.is("rise least", highestRank(Integer.MIN_VALUE, 5), 2);
    }

    private static String transcript(int redundant) {
        Mesh mesh = new Mesh(12, 200, redundant);
        for (int a = 1; a < 7; a++) {
            mesh.link(0, a, 1 + a);
        }
        StringBuilder all = new StringBuilder();
        for (int i = 0; i < 500; i++) {
            // Repairs keep the leaves' intervals short, so that the root counts many adverts.
            if (i % 25 == 0) {
                mesh.repair();
            }
            mesh.tick(7);
            all.append(mesh.node(0, 5)).append(' ').append(mesh.count(2)).append(';');
        }
        return all.toString();
    }

    private static void redundantIsTheNearestNumber() {
        String one = transcript(1);
        DUE.is("redundant 0 is 1", transcript(0).equals(one), true);
        DUE.is("redundant -9 is 1", transcript(-9).equals(one), true);
        DUE.is("redundant least is 1", transcript(Integer.MIN_VALUE).equals(one), true);
        DUE.is("redundant 2 is another", transcript(2).equals(one), false);
        String nine = transcript(9);
        DUE.is("redundant 10 is 9", transcript(10).equals(nine), true);
        DUE.is("redundant greatest is 9", transcript(Integer.MAX_VALUE).equals(nine), true);
        Mesh lone = new Mesh(4, 0, 0);
        lone.tick(100);
        DUE.is("the nearest to 0 lets the root advertise", lone.count(2) > 0, true);
    }

    private static void link() {
        Mesh mesh = new Mesh(8, 30, 2);
        for (int bad : NO_NODES) {
            DUE.is("link(" + bad + ", 1, 1)", mesh.link(bad, 1, 1), false);
            DUE.is("link(1, " + bad + ", 1)", mesh.link(1, bad, 1), false);
            DUE.is("link(1, " + bad + ", 0)", mesh.link(1, bad, 0), false);
        }
        for (int a = 0; a < 7; a++) {
            DUE.is("link to itself", mesh.link(a, a, 1), false);
            DUE.is("link to itself, 0", mesh.link(a, a, 0), false);
        }
        for (int cost : new int[] {-1, 10, Integer.MIN_VALUE, Integer.MAX_VALUE}) {
            DUE.is("cost " + cost, mesh.link(0, 1, cost), false);
        }
        mesh.tick(60);
        DUE.is("refused links do not link", mesh.node(1, 2), 0);
        DUE.is("link(1, 0, 9)", mesh.link(1, 0, 9), true);
        mesh.tick(100);
        DUE.is("linked both ways", mesh.node(1, 0), 10);
        DUE.is("routes both ways", mesh.next(0, 1), 2);
        DUE.is("link(0, 1, 10)", mesh.link(0, 1, 10), false);
        DUE.is("link(0, 1, 3)", mesh.link(0, 1, 3), true);
        DUE.is("no rank changes at once", mesh.node(1, 0), 10);
        mesh.tick(100);
        mesh.tick(100);
        DUE.is("the new cost in place of the old", mesh.node(1, 0), 4);
        DUE.is("link(6, 5, 0)", mesh.link(6, 5, 0), true);
        DUE.is("kill(1)", mesh.kill(1), true);
        DUE.is("a dead one", mesh.link(0, 1, 1), true);
        DUE.is("a dead one first", mesh.link(1, 2, 1), true);
        DUE.is("a dead one unlinked", mesh.link(2, 1, 0), true);
    }

    private static void kill() {
        Mesh mesh = row();
        for (int bad : NO_NODES) {
            DUE.is("kill(" + bad + ")", mesh.kill(bad), false);
        }
        DUE.is("kill(0)", mesh.kill(0), false);
        int[] before = new int[13];
        mesh.send(1, 0, 3, 4);
        mesh.send(1, 0, 3, 5);
        for (int what = 0; what < 13; what++) {
            before[what] = mesh.node(1, what);
        }
        DUE.is("queue before", before[6] >= 2, true);
        int dropped = mesh.count(0);
        DUE.is("kill(1)", mesh.kill(1), true);
        DUE.is("kill(1) again", mesh.kill(1), false);
        mesh.tick(100);
        for (int what = 0; what < 13; what++) {
            int due = what >= 6 && what <= 9 ? 0 : what == 11 ? 1 : before[what];
            DUE.is("dead: node(1, " + what + ")", mesh.node(1, what), due);
        }
        DUE.is("its VALUEs are not counted", mesh.count(0), dropped);
        DUE.is("its next stays", mesh.next(1, 2), 3);
        DUE.is("its known rank stays", mesh.known(1, 0), 1);
        DUE.is("send from the dead", mesh.send(1, 0, 3, 4), TrickleMesh.BAD);
        DUE.is("send to the dead", mesh.send(0, 1, 3, 4), 3);
        DUE.is("the root lives", mesh.node(0, 11) != 1, true);
        killWhileListening();
    }

    private static void killWhileListening() {
        Mesh mesh = row();
        mesh.send(2, 0, 9, 1);
        for (int i = 0; i < 50 && mesh.node(2, 11) != 2; i++) {
            mesh.tick(1);
        }
        DUE.is("2 listens", mesh.node(2, 11), 2);
        DUE.is("1 owes", mesh.node(1, 11), 3);
        mesh.kill(1);
        DUE.is("the dead owes nothing", mesh.node(1, 11), 1);
        mesh.tick(1);
        DUE.is("no acknowledgement from the dead", mesh.node(2, 9), 1);
        mesh.tick(100);
        DUE.is("the frame failed", mesh.count(0), 1);
        DUE.is("and with it the parent", mesh.node(2, 1), 0);
    }

    private static void repair() {
        Mesh mesh = row();
        mesh.tick(100);
        DUE.is("interval before", mesh.node(0, 3) > 4, true);
        DUE.is("repair()", mesh.repair(), 2);
        DUE.is("root's version", mesh.node(0, 2), 2);
        DUE.is("root's interval", mesh.node(0, 3), 4);
        DUE.is("root's clock", mesh.node(0, 4), 0);
        DUE.is("root's rank", mesh.node(0, 0), 1);
        DUE.is("root's known ranks stay", mesh.known(0, 1), 3);
        mesh.tick(1);
        DUE.is("repair() again", mesh.repair(), 3);
        DUE.is("an interval of 4 goes on", mesh.node(0, 4), 1);
        mesh.tick(100);
        DUE.is("version of 1", mesh.node(1, 2), 3);
        DUE.is("version of 2", mesh.node(2, 2), 3);
        DUE.is("rank of 2", mesh.node(2, 0), 6);
    }

    private static void send() {
        Mesh mesh = row();
        for (int bad : NO_NODES) {
            DUE.is("send from " + bad, mesh.send(bad, 0, 1, 1), TrickleMesh.BAD);
            DUE.is("send to " + bad, mesh.send(1, bad, 1, 1), TrickleMesh.BAD);
        }
        for (int hops : new int[] {0, -1, 16, Integer.MIN_VALUE, Integer.MAX_VALUE}) {
            DUE.is("hops " + hops, mesh.send(1, 0, hops, 1), TrickleMesh.BAD);
        }
        for (int value : new int[] {-1, 1000, Integer.MIN_VALUE, Integer.MAX_VALUE}) {
            DUE.is("value " + value, mesh.send(1, 0, 1, value), TrickleMesh.BAD);
        }
        DUE.is("to itself", mesh.send(1, 1, 1, 1), TrickleMesh.BAD);
        DUE.is("nothing was sent or dropped", mesh.count(0), 0);
        DUE.is("one hop", mesh.send(2, 1, 1, 0), 1);
        mesh.tick(40);
        DUE.is("one hop is enough", mesh.delivered(1, 0), 2000);
        DUE.is("up, 15 hops", mesh.send(2, 0, 15, 999), 2);
        mesh.tick(40);
        DUE.is("delivered at the root", mesh.delivered(0, 0), 2999);
        DUE.is("one hop for two", mesh.send(2, 0, 1, 3), 3);
        mesh.tick(40);
        DUE.is("not delivered", mesh.delivered(0, -1), 1);
        DUE.is("but DROPPED", mesh.count(0), 1);
        DUE.is("two hops for two", mesh.send(0, 2, 2, 4), 4);
        mesh.tick(40);
        DUE.is("delivered below", mesh.delivered(2, 0), 4);
        DUE.is("no way at the root", mesh.send(0, 6, 5, 5), 5);
        DUE.is("DROPPED at once", mesh.count(0), 2);
        DUE.is("no way at a lone node", mesh.send(6, 0, 5, 5), 6);
        DUE.is("DROPPED there, too", mesh.count(0), 3);
        mesh.kill(2);
        DUE.is("a dead goal", mesh.send(0, 2, 5, 5), 7);
        queueHasRoomForFour();
    }

    private static void queueHasRoomForFour() {
        Mesh mesh = row();
        for (int i = 0; i < 60 && mesh.node(2, 6) > 0; i++) {
            mesh.tick(1);
        }
        for (int i = 1; i <= 4; i++) {
            mesh.send(2, 1, 1, i);
            DUE.is("queue", mesh.node(2, 6), i);
        }
        DUE.is("none is gone", mesh.count(0), 0);
        DUE.is("the fifth is counted", mesh.send(2, 1, 1, 5), 5);
        DUE.is("and DROPPED", mesh.count(0), 1);
        DUE.is("the queue stays", mesh.node(2, 6), 4);
        mesh.tick(60);
        for (int k = 0; k < 4; k++) {
            DUE.is("in their order", mesh.delivered(1, k), 2004 - k);
        }
    }

    private static void tick() {
        Mesh mesh = new Mesh(1, 1, 1);
        DUE.is("tick(0)", mesh.tick(0), 0);
        DUE.is("tick(1)", mesh.tick(1), 1);
        DUE.is("tick(100)", mesh.tick(100), 101);
        for (int n : new int[] {-1, 101, Integer.MIN_VALUE, Integer.MAX_VALUE}) {
            DUE.is("tick(" + n + ")", mesh.tick(n), TrickleMesh.BAD);
        }
        DUE.is("tick(0) later", mesh.tick(0), 101);
        int clock = mesh.node(0, 4);
        mesh.tick(0);
        DUE.is("tick(0) changes nothing", mesh.node(0, 4), clock);
        Mesh one = row();
        Mesh many = row();
        one.tick(37);
        for (int i = 0; i < 37; i++) {
            many.tick(1);
        }
        DUE.is("37 ticks at once or singly", one.count(2), many.count(2));
    }

    private static void node() {
        Mesh mesh = row();
        for (int bad : NO_NODES) {
            DUE.is("node(" + bad + ", 0)", mesh.node(bad, 0), TrickleMesh.BAD);
            DUE.is("node(0, what " + bad + ")", bad == 7 ? -1 : mesh.node(0, bad), TrickleMesh.BAD);
        }
        DUE.is("node(0, 13)", mesh.node(0, 13), TrickleMesh.BAD);
        DUE.is("node(6, 12)", mesh.node(6, 12), 0);
        DUE.is("rank", mesh.node(1, 0), 3);
        DUE.is("parent", mesh.node(1, 1), 1);
        DUE.is("parent of 2", mesh.node(2, 1), 2);
        DUE.is("root's parent", mesh.node(0, 1), 0);
        DUE.is("root's LEAST", mesh.node(0, 10), 255);
        DUE.is("LEAST", mesh.node(2, 10), 6);
        DUE.is("NUMBER", mesh.node(1, 12), 3);
        DUE.is("root's NUMBER", mesh.node(0, 12), 0);
    }

    private static void next() {
        Mesh mesh = row();
        DUE.is("next(0, 1)", mesh.next(0, 1), 2);
        DUE.is("next(0, 2)", mesh.next(0, 2), 2);
        DUE.is("next(1, 2)", mesh.next(1, 2), 3);
        DUE.is("next(1, 0): upwards there is a parent alone", mesh.next(1, 0), 0);
        DUE.is("next(2, 1)", mesh.next(2, 1), 0);
        DUE.is("next(0, 3)", mesh.next(0, 3), 0);
        for (int a = 0; a < 7; a++) {
            DUE.is("next to itself", mesh.next(a, a), 0);
        }
        for (int bad : NO_NODES) {
            DUE.is("next(" + bad + ", 1)", mesh.next(bad, 1), 0);
            DUE.is("next(0, " + bad + ")", mesh.next(0, bad), 0);
            DUE.is("next(" + bad + ", " + bad + ")", mesh.next(bad, bad), 0);
        }
    }

    private static void known() {
        Mesh mesh = row();
        DUE.is("known(0, 1)", mesh.known(0, 1), 3);
        DUE.is("known(1, 0)", mesh.known(1, 0), 1);
        DUE.is("known(1, 2)", mesh.known(1, 2), 6);
        DUE.is("known(2, 1)", mesh.known(2, 1), 3);
        DUE.is("known(2, 0): not linked", mesh.known(2, 0), 0);
        mesh.link(0, 1, 0);
        DUE.is("a rank is known without a link, too", mesh.known(1, 0), 1);
        for (int a = 0; a < 7; a++) {
            DUE.is("known of itself", mesh.known(a, a), 0);
        }
        for (int bad : NO_NODES) {
            DUE.is("known(" + bad + ", 1)", mesh.known(bad, 1), 0);
            DUE.is("known(0, " + bad + ")", mesh.known(0, bad), 0);
            DUE.is("known(" + bad + ", " + bad + ")", mesh.known(bad, bad), 0);
        }
    }

    private static void delivered() {
        Mesh mesh = row();
        DUE.is("none yet", mesh.delivered(1, 0), 0);
        for (int i = 1; i <= 10; i++) {
            mesh.send(2, 1, 1, 100 + i);
            mesh.tick(30);
            DUE.is("the latest", mesh.delivered(1, 0), 2100 + i);
            DUE.is("how many", mesh.delivered(1, -1), i);
            DUE.is("before the first", mesh.delivered(1, i), 0);
        }
        for (int k = 0; k < 8; k++) {
            DUE.is("the " + k + "-th from the latest", mesh.delivered(1, k), 2110 - k);
        }
        DUE.is("delivered(1, 8)", mesh.delivered(1, 8), 0);
        DUE.is("delivered(1, -2)", mesh.delivered(1, -2), 0);
        DUE.is("delivered(1, greatest)", mesh.delivered(1, Integer.MAX_VALUE), 0);
        DUE.is("delivered(1, least)", mesh.delivered(1, Integer.MIN_VALUE), 0);
        for (int bad : NO_NODES) {
            DUE.is("delivered(" + bad + ", -1)", mesh.delivered(bad, -1), 0);
            DUE.is("delivered(" + bad + ", 0)", mesh.delivered(bad, 0), 0);
        }
        DUE.is("not at others", mesh.delivered(0, -1), 0);
    }

    private static void count() {
        Mesh mesh = row();
        mesh.send(0, 5, 1, 1);
        mesh.send(2, 1, 1, 1);
        mesh.send(0, 1, 1, 1);
        mesh.tick(40);
        mesh.send(1, 2, 1, 1);
        mesh.tick(40);
        DUE.is("count(0)", mesh.count(0), 1);
        DUE.is("count(1)", mesh.count(1), 3);
        for (int what : new int[] {-1, 3, Integer.MIN_VALUE, Integer.MAX_VALUE}) {
            DUE.is("count(" + what + ")", mesh.count(what), 0);
        }
        // A frame that nobody acknowledges is on the air four times.
        Mesh lone = row();
        for (int i = 0; i < 60 && lone.node(2, 6) > 0; i++) {
            lone.tick(1);
        }
        lone.link(0, 1, 0);
        lone.link(1, 2, 0);
        int before = lone.count(2);
        int listened = 0;
        lone.send(2, 0, 5, 5);
        for (int i = 0; i < 60 && lone.count(0) == 0; i++) {
            lone.tick(1);
            listened += lone.node(2, 11) == 2 ? 1 : 0;
        }
        DUE.is("four tries", listened, 4);
        DUE.is("on the air, each time anew", lone.count(2) >= before + 4, true);
    }
}
