/** The edges that the promises 1 to 11 name of each call: one method a sentence. */
public final class CallsEdgesTest {
    private static final Due DUE = new Due();
    private static final int[] NO_NODES = {-1, 7, 8, Integer.MIN_VALUE, Integer.MAX_VALUE};
    private static final int BAD = TrickleMesh.BAD;

    public static void main(String[] args) {
        badIsMinusOne();
        allNodesAreAliveAndNoneAreLinked();
        riseIsAtLeast0();
        riseIsAtMost200();
        redundantIsAtLeast1();
        linkRefusesWhatIsNoNode();
        linkRefusesOneWithItself();
        linkRefusesACostThatIsNot0To9();
        aRefusedLinkChangesNothing();
        linkTakesTheGreatestCostAndTheLeast();
        linkOf0Unlinks();
        linkTakesTheDead();
        killRefusesWhatIsNoNode();
        killRefusesTheRoot();
        killRefusesTheDead();
        killEmptiesTheQueueAndCountsNothing();
        killTakesWhatIsOwed();
        killTakesListening();
        theDeadStayAsTheyWere();
        repairLetsTheVersionGrow();
        repairAtInterval4();
        sendRefusesNodesThatAreNone();
        sendRefusesOneToItself();
        sendRefusesHopsThatAreNot1To15();
        sendRefusesAValueThatIsNot0To999();
        sendRefusesTheDead();
        sendTakesADeadGoal();
        sendCountsWhatIsDropped();
        tickRefusesWhatIsNot0To100();
        tickOf0IsNoTick();
        tickOf100();
        nodeRefusesWhatIsNoNode();
        nodeRefusesOtherNumbers();
        nodeWithoutAFirstFrame();
        nodeTellsDeadListensOwes();
        nextOfNone();
        knownOfNone();
        deliveredOfNone();
        deliveredKeepsEight();
        countOfOthers();
        countOfFramesButAcknowledgements();
        fiveHundredAndTwelveCalls();
        laterCallsDoNotThrow();
        DUE.end("CallsEdgesTest");
    }

    private static Scene pair() {
        Scene scene = new Scene(1, 30, 9, 0, 1, 2).withoutOthers().ticks(100);
        DUE.is("still", scene.still(18), true);
        return scene;
    }

    private static void badIsMinusOne() {
        DUE.sentence("BAD = -1");
        DUE.is("BAD", BAD, -1);
    }

    private static void allNodesAreAliveAndNoneAreLinked() {
        DUE.sentence("All nodes are alive, none are linked, all queues are empty; only the root's timer is RESET");
        Scene scene = new Scene(3, 30, 2);
        for (int a = 0; a < 7; a++) {
            DUE.is("dead", scene.dead(a), false);
            DUE.is("queue", scene.queue(a), 0);
            DUE.is("interval", scene.interval(a), a == 0 ? 4 : 64);
            DUE.is("clock", scene.clock(a), 0);
            DUE.is("version", scene.version(a), a == 0 ? 1 : 0);
            DUE.is("rank", scene.rank(a), a == 0 ? 1 : 255);
            DUE.is("LEAST", scene.least(a), 255);
        }
        scene.ticks(300);
        for (int a = 1; a < 7; a++) {
            DUE.is("nobody heard the root", scene.version(a), 0);
        }
    }

    /** Whether node 1, from rank 2, takes a rank that is higher by so much. */
    private static boolean rises(int rise, int by) {
        Scene scene = new Scene(7, rise, 9, 0, 1, 1).withoutOthers().ticks(150);
        scene.link(0, 1, 1 + by);
        scene.untilChange(1);
        return scene.rank(1) == 2 + by;
    }

    private static void riseIsAtLeast0() {
        DUE.sentence("RISE 0 .. 200 (the nearest number for others)");
        for (int rise : new int[] {0, -1, -2, -200, Integer.MIN_VALUE}) {
            DUE.is("RISE " + rise + ": by 1", rises(rise, 1), false);
            // A RISE below 0 would refuse even the rank that it has.
            Scene scene = new Scene(7, rise, 9, 0, 1, 1).withoutOthers().ticks(300);
            DUE.is("RISE " + rise + ": the rank stays", scene.rank(1), 2);
            DUE.is("RISE " + rise + ": the first parent stays", scene.number(1), 1 + 300 / 64);
        }
        DUE.is("RISE 1: by 1", rises(1, 1), true);
        DUE.is("RISE 1: by 2", rises(1, 2), false);
    }

    /**
     * Cut off from the root, 1 and 2 raise one another, at costs that are set so that 2 comes to rank 198 from
     * LEAST 2 of 1: then 1 is asked to rise to 198 and the last cost.
     */
    private static int raised(int rise, int last) {
        Scene scene = new Scene(3, rise, 9, 0, 1, 1, 1, 2, 9).withoutOthers().ticks(150);
        DUE.is("LEAST of 1", scene.least(1), 2);
        scene.link(0, 1, 0);
        scene.mesh.send(1, 0, 15, 1);
        for (int i = 0; i < 4000 && scene.mesh.known(1, 2) != 198; i++) {
            int rank = scene.rank(1);
            boolean near = rank >= 189 && rank < 198;
            scene.link(1, 2, scene.rank(2) == 198 ? last : near ? 198 - rank : rank > 170 ? 3 : 9);
            scene.mesh.tick(1);
        }
        DUE.is("1 knows the rank of 2", scene.mesh.known(1, 2), 198);
        return scene.rank(1);
    }

    private static void riseIsAtMost200() {
        DUE.sentence("RISE 0 .. 200 (the nearest number for others)");
        DUE.is("RISE 200, LEAST and 200", raised(200, 4), 202);
        DUE.is("RISE 200, LEAST and 201", raised(200, 5), 255);
        DUE.is("RISE 201, LEAST and 200", raised(201, 4), 202);
        DUE.is("RISE 201, LEAST and 201", raised(201, 5), 255);
        DUE.is("RISE 199, LEAST and 200", raised(199, 4), 255);
        DUE.is("RISE 199, LEAST and 199", raised(199, 3), 201);
        DUE.is("the greatest, LEAST and 200", raised(Integer.MAX_VALUE, 4), 202);
        DUE.is("the greatest, LEAST and 201", raised(Integer.MAX_VALUE, 5), 255);
    }

    /** With REDUNDANT 0 no ADVERT would ever be queued. */
    private static void redundantIsAtLeast1() {
        DUE.sentence("REDUNDANT 1 .. 9 (the nearest number for others)");
        for (int redundant : new int[] {1, 0, -1, -9, Integer.MIN_VALUE}) {
            Scene scene = new Scene(3, 30, redundant).ticks(3);
            DUE.is("REDUNDANT " + redundant + ": ADVERTs", scene.queue(0) + scene.aired(), 1);
        }
    }

    private static void linkRefusesWhatIsNoNode() {
        DUE.sentence("link: False when one is no node");
        Mesh mesh = new Mesh(1, 1, 1);
        for (int bad : NO_NODES) {
            DUE.is("link(" + bad + ", 1, 1)", mesh.link(bad, 1, 1), false);
            DUE.is("link(1, " + bad + ", 1)", mesh.link(1, bad, 1), false);
            DUE.is("link(1, " + bad + ", 0)", mesh.link(1, bad, 0), false);
            DUE.is("link(" + bad + ", " + bad + ", 1)", mesh.link(bad, bad, 1), false);
        }
        DUE.is("link(0, 6, 1)", mesh.link(0, 6, 1), true);
        DUE.is("link(6, 0, 1)", mesh.link(6, 0, 1), true);
    }

    private static void linkRefusesOneWithItself() {
        DUE.sentence("link: False when ... both are the same");
        Mesh mesh = new Mesh(1, 1, 1);
        for (int a = 0; a < 7; a++) {
            DUE.is("link(" + a + ", " + a + ", 1)", mesh.link(a, a, 1), false);
            DUE.is("link(" + a + ", " + a + ", 0)", mesh.link(a, a, 0), false);
        }
    }

    private static void linkRefusesACostThatIsNot0To9() {
        DUE.sentence("link: False when ... cost is not 0 .. 9");
        Mesh mesh = new Mesh(1, 1, 1);
        for (int cost : new int[] {-1, 10, Integer.MIN_VALUE, Integer.MAX_VALUE}) {
            DUE.is("link(0, 1, " + cost + ")", mesh.link(0, 1, cost), false);
        }
        for (int cost = 0; cost < 10; cost++) {
            DUE.is("link(0, 1, " + cost + ")", mesh.link(0, 1, cost), true);
        }
    }

    private static void aRefusedLinkChangesNothing() {
        DUE.sentence("link: False (and what was stays)");
        Scene scene = pair();
        scene.mesh.link(0, 1, 10);
        scene.mesh.link(0, 1, -1);
        scene.ticks(200);
        DUE.is("rank", scene.rank(1), 3);
        Scene none = new Scene(1, 30, 9);
        none.mesh.link(0, 1, 10);
        none.mesh.link(0, 7, 1);
        none.ticks(200);
        DUE.is("no link", none.version(1), 0);
    }

    private static void linkTakesTheGreatestCostAndTheLeast() {
        DUE.sentence("link: linked with a cost from now on, in place of what was");
        Scene scene = new Scene(1, 30, 9, 1, 0, 9).withoutOthers().ticks(100);
        DUE.is("cost 9", scene.rank(1), 10);
        scene.link(0, 1, 1);
        DUE.is("not at once", scene.rank(1), 10);
        scene.ticks(150);
        DUE.is("cost 1", scene.rank(1), 2);
    }

    private static void linkOf0Unlinks() {
        DUE.sentence("link: ... or not (0): true");
        Scene scene = pair();
        DUE.is("link(1, 0, 0)", scene.mesh.link(1, 0, 0), true);
        DUE.is("link(1, 0, 0) again", scene.mesh.link(1, 0, 0), true);
        DUE.is("what is known stays", scene.mesh.known(1, 0), 1);
        scene.mesh.send(1, 0, 15, 1);
        scene.ticks(20);
        DUE.is("nobody hears it", scene.mesh.delivered(0, -1), 0);
        DUE.is("it failed", scene.dropped(), 1);
    }

    private static void linkTakesTheDead() {
        DUE.sentence("link: Nodes a and b (dead ones, too)");
        Scene scene = pair();
        scene.mesh.kill(1);
        DUE.is("link(0, 1, 3)", scene.mesh.link(0, 1, 3), true);
        DUE.is("link(1, 0, 0)", scene.mesh.link(1, 0, 0), true);
        DUE.is("link(1, 2, 3), both dead", scene.mesh.link(1, 2, 3), true);
    }

    private static void killRefusesWhatIsNoNode() {
        DUE.sentence("kill: False when there is none such");
        Mesh mesh = new Mesh(1, 1, 1);
        for (int bad : NO_NODES) {
            DUE.is("kill(" + bad + ")", mesh.kill(bad), false);
        }
        DUE.is("kill(6)", mesh.kill(6), true);
        DUE.is("kill(1)", mesh.kill(1), true);
    }

    private static void killRefusesTheRoot() {
        DUE.sentence("kill: False when ... it is the root");
        Scene scene = pair();
        DUE.is("kill(0)", scene.mesh.kill(0), false);
        DUE.is("dead", scene.dead(0), false);
        scene.mesh.send(0, 1, 15, 5);
        scene.ticks(15);
        DUE.is("it sends on", scene.mesh.delivered(1, 0), 5);
    }

    private static void killRefusesTheDead() {
        DUE.sentence("kill: False when ... or dead");
        Mesh mesh = new Mesh(1, 1, 1);
        for (int a = 1; a < 7; a++) {
            DUE.is("kill(" + a + ")", mesh.kill(a), true);
            DUE.is("kill(" + a + ") again", mesh.kill(a), false);
        }
        mesh.tick(50);
        DUE.is("kill(1) later", mesh.kill(1), false);
    }

    private static void killEmptiesTheQueueAndCountsNothing() {
        DUE.sentence("kill: its queue is empty (VALUEs in it are not counted)");
        Scene scene = pair();
        for (int i = 0; i < 4; i++) {
            scene.mesh.send(1, 0, 15, i);
        }
        DUE.is("queue before", scene.queue(1), 4);
        scene.mesh.kill(1);
        DUE.is("queue", scene.queue(1), 0);
        DUE.is("WAIT", scene.waits(1), 0);
        int aired = scene.aired();
        scene.ticks(18);
        DUE.is("DROPPED", scene.dropped(), 0);
        DUE.is("delivered", scene.mesh.count(1), 0);
        DUE.is("nothing is on the air", scene.aired(), aired);
    }

    private static void killTakesWhatIsOwed() {
        DUE.sentence("kill: it owes nothing");
        Scene scene = pair();
        scene.mesh.send(0, 1, 15, 1);
        DUE.is("1 owes", scene.until(1, 11, Scene.OWES), true);
        scene.mesh.kill(1);
        DUE.is("dead", scene.mesh.node(1, 11), 1);
        scene.mesh.tick(1);
        DUE.is("no acknowledgement came", scene.tries(0), 1);
        DUE.is("it was delivered before", scene.mesh.delivered(1, 0), 1);
    }

    private static void killTakesListening() {
        DUE.sentence("kill: ... and listens no more");
        Scene scene = pair();
        scene.mesh.send(1, 0, 15, 1);
        DUE.is("1 listens", scene.until(1, 11, Scene.LISTENS), true);
        scene.mesh.kill(1);
        DUE.is("dead", scene.mesh.node(1, 11), 1);
        scene.ticks(10);
        DUE.is("TRIES", scene.tries(1), 0);
        DUE.is("DROPPED", scene.dropped(), 0);
        DUE.is("parent stays", scene.parent(1), 0);
        for (int seed = 0; seed < 20; seed++) {
            DUE.is("it draws no more", waitsAfterDeath(seed, 0), waitsAfterDeath(seed, 1));
        }
    }

    /** 1 dies while it listens, or later, when it is done: nothing is drawn for it in between, and the root draws the same. */
    private static int waitsAfterDeath(int seed, int later) {
        Scene scene = new Scene(seed, 30, 9, 0, 1, 2).withoutOthers().ticks(100);
        scene.still(18);
        scene.mesh.send(1, 0, 15, 1);
        scene.until(1, 11, Scene.LISTENS);
        scene.ticks(later);
        scene.mesh.kill(1);
        scene.ticks(1 - later);
        int waits = 0;
        for (int i = 0; i < 3; i++) {
            scene.mesh.send(0, 1, 15, 1);
            waits = waits * 4 + scene.waits(0);
            scene.until(0, 6, 0);
        }
        return waits;
    }

    private static void theDeadStayAsTheyWere() {
        DUE.sentence("kill: It stays as it is otherwise, for good");
        Scene scene = new Scene(1, 30, 9, 0, 1, 2, 1, 2, 2).withoutOthers().ticks(130);
        scene.mesh.send(2, 1, 15, 9);
        scene.ticks(20);
        Scene.Past past = scene.past(1);
        scene.mesh.kill(1);
        scene.mesh.repair();
        scene.ticks(200);
        Scene.Past now = scene.past(1);
        DUE.is("rank", now.rank(), past.rank());
        DUE.is("parent", now.parent(), past.parent());
        DUE.is("interval", now.interval(), past.interval());
        DUE.is("clock", now.clock(), past.clock());
        DUE.is("COUNT", now.counted(), past.counted());
        DUE.is("NUMBER", now.number(), past.number());
        DUE.is("LEAST", now.least(), past.least());
        DUE.is("version", scene.version(1), 1);
        DUE.is("next(1, 2)", scene.mesh.next(1, 2), 3);
        DUE.is("known(1, 0)", scene.mesh.known(1, 0), 1);
        DUE.is("delivered", scene.mesh.delivered(1, 0), 2009);
    }

    private static void repairLetsTheVersionGrow() {
        DUE.sentence("repair: The root's version grows by 1, and its timer is RESET: the version");
        Scene scene = pair();
        for (int version = 2; version < 8; version++) {
            DUE.is("repair()", scene.mesh.repair(), version);
            DUE.is("version", scene.version(0), version);
        }
        DUE.is("interval", scene.interval(0), 4);
        DUE.is("clock", scene.clock(0), 0);
        DUE.is("COUNT", scene.counted(0), 0);
        scene.ticks(60);
        DUE.is("version of 1", scene.version(1), 7);
    }

    private static void repairAtInterval4() {
        DUE.sentence("repair: ... RESET (at interval 4 the interval goes on)");
        Scene scene = new Scene(1, 30, 9).ticks(2);
        DUE.is("repair()", scene.mesh.repair(), 2);
        DUE.is("clock", scene.clock(0), 2);
        scene.ticks(2);
        DUE.is("interval", scene.interval(0), 8);
    }

    private static void sendRefusesNodesThatAreNone() {
        DUE.sentence("send: BAD when a number is not as said (a node)");
        Scene scene = pair();
        for (int bad : NO_NODES) {
            DUE.is("from " + bad, scene.mesh.send(bad, 0, 1, 1), BAD);
            DUE.is("to " + bad, scene.mesh.send(1, bad, 1, 1), BAD);
        }
        nothingWasSent(scene);
    }

    private static void nothingWasSent(Scene scene) {
        DUE.is("nothing is DROPPED", scene.dropped(), 0);
        DUE.is("nothing is queued", scene.queue(0) + scene.queue(1), 0);
        DUE.is("nothing is counted", scene.mesh.send(1, 0, 1, 1), 1);
    }

    private static void sendRefusesOneToItself() {
        DUE.sentence("send: from node a to another one");
        Scene scene = pair();
        DUE.is("send(1, 1, 1, 1)", scene.mesh.send(1, 1, 1, 1), BAD);
        DUE.is("send(0, 0, 1, 1)", scene.mesh.send(0, 0, 1, 1), BAD);
        nothingWasSent(scene);
    }

    private static void sendRefusesHopsThatAreNot1To15() {
        DUE.sentence("send: with so many hops (1 .. 15)");
        Scene scene = pair();
        for (int hops : new int[] {0, -1, 16, 17, Integer.MIN_VALUE, Integer.MAX_VALUE}) {
            DUE.is("hops " + hops, scene.mesh.send(1, 0, hops, 1), BAD);
        }
        nothingWasSent(scene);
        DUE.is("hops 15", scene.mesh.send(1, 0, 15, 1), 2);
    }

    private static void sendRefusesAValueThatIsNot0To999() {
        DUE.sentence("send: A VALUE (0 .. 999)");
        Scene scene = pair();
        for (int value : new int[] {-1, 1000, Integer.MIN_VALUE, Integer.MAX_VALUE}) {
            DUE.is("value " + value, scene.mesh.send(1, 0, 1, value), BAD);
        }
        nothingWasSent(scene);
        DUE.is("value 0", scene.mesh.send(1, 0, 1, 0), 2);
        DUE.is("value 999", scene.mesh.send(1, 0, 1, 999), 3);
        scene.ticks(30);
        DUE.is("999 came", scene.mesh.delivered(0, 0), 1999);
        DUE.is("0 came", scene.mesh.delivered(0, 1), 1000);
    }

    private static void sendRefusesTheDead() {
        DUE.sentence("send: BAD when ... a is dead");
        Scene scene = pair();
        scene.mesh.send(1, 0, 1, 1);
        scene.mesh.kill(1);
        DUE.is("send(1, 0, 1, 1)", scene.mesh.send(1, 0, 1, 1), BAD);
        DUE.is("not counted", scene.mesh.send(0, 1, 1, 1), 2);
    }

    private static void sendTakesADeadGoal() {
        DUE.sentence("send: to another one (which may be dead)");
        Scene scene = pair();
        scene.mesh.kill(1);
        DUE.is("send(0, 1, 1, 1)", scene.mesh.send(0, 1, 1, 1), 1);
        DUE.is("it is queued", scene.queue(0), 1);
        scene.ticks(21);
        DUE.is("it failed", scene.dropped(), 1);
        DUE.is("delivered", scene.mesh.delivered(1, -1), 0);
    }

    private static void sendCountsWhatIsDropped() {
        DUE.sentence("send: (and counted, also if it is DROPPED there). Answers how many there were so far");
        Scene scene = new Scene(1, 30, 9);
        for (int i = 1; i <= 6; i++) {
            DUE.is("send", scene.mesh.send(i, 0, 15, i), i);
            DUE.is("DROPPED", scene.dropped(), i);
        }
    }

    private static void tickRefusesWhatIsNot0To100() {
        DUE.sentence("tick: BAD when n is not 0 .. 100");
        Scene scene = new Scene(1, 30, 9).ticks(7);
        for (int n : new int[] {-1, 101, 102, -100, Integer.MIN_VALUE, Integer.MAX_VALUE}) {
            DUE.is("tick(" + n + ")", scene.mesh.tick(n), BAD);
            DUE.is("no tick", scene.clock(0), 3);
        }
        DUE.is("the number of the last one", scene.mesh.tick(0), 7);
    }

    private static void tickOf0IsNoTick() {
        DUE.sentence("tick: n ticks (0)");
        Scene scene = new Scene(1, 30, 9);
        DUE.is("before the first", scene.mesh.tick(0), 0);
        scene.ticks(3);
        DUE.is("later", scene.mesh.tick(0), 3);
        DUE.is("clock", scene.clock(0), 3);
    }

    private static void tickOf100() {
        DUE.sentence("tick: n ticks: the number of the last one (100)");
        Scene scene = new Scene(1, 30, 9);
        DUE.is("tick(100)", scene.mesh.tick(100), 100);
        DUE.is("clock", scene.clock(0), 100 - 60);
        DUE.is("tick(99)", scene.mesh.tick(99), 199);
        DUE.is("tick(1)", scene.mesh.tick(1), 200);
        DUE.is("clock", scene.clock(0), 200 - 188);
    }

    private static void nodeRefusesWhatIsNoNode() {
        DUE.sentence("node: BAD for others (nodes)");
        Mesh mesh = new Mesh(1, 1, 1);
        for (int bad : NO_NODES) {
            for (int what = -1; what < 14; what++) {
                DUE.is("node(" + bad + ", " + what + ")", mesh.node(bad, what), BAD);
            }
        }
        DUE.is("node(6, 0)", mesh.node(6, 0), 255);
    }

    private static void nodeRefusesOtherNumbers() {
        DUE.sentence("node: BAD for others (what)");
        Mesh mesh = new Mesh(1, 1, 1);
        for (int a = 0; a < 7; a++) {
            for (int what : new int[] {-1, 13, 14, Integer.MIN_VALUE, Integer.MAX_VALUE}) {
                DUE.is("node(" + a + ", " + what + ")", mesh.node(a, what), BAD);
            }
            DUE.is("node(" + a + ", 12)", mesh.node(a, 12), 0);
        }
    }

    private static void nodeWithoutAFirstFrame() {
        DUE.sentence("node: WAIT, BUSY, TRIES (of its first frame; 0 without one)");
        Scene scene = pair();
        scene.link(0, 1, 0);
        scene.mesh.send(1, 0, 15, 1);
        scene.until(1, 9, 2);
        scene.link(0, 1, 2);
        DUE.is("the queue is empty", scene.until(1, 6, 0), true);
        DUE.is("WAIT", scene.waits(1), 0);
        DUE.is("BUSY", scene.busy(1), 0);
        DUE.is("TRIES", scene.tries(1), 0);
    }

    private static void nodeTellsDeadListensOwes() {
        DUE.sentence("node: 11 1 when it is dead, 2 when it listens, 3 when it owes an acknowledgement, otherwise 0");
        Scene scene = pair();
        DUE.is("otherwise", scene.mesh.node(1, 11), 0);
        scene.mesh.send(1, 0, 15, 1);
        DUE.is("queued alone is nothing", scene.mesh.node(1, 11), 0);
        scene.ready(1);
        scene.mesh.tick(1);
        DUE.is("listens", scene.mesh.node(1, 11), 2);
        DUE.is("owes", scene.mesh.node(0, 11), 3);
        scene.mesh.tick(1);
        DUE.is("no more", scene.mesh.node(1, 11) + scene.mesh.node(0, 11), 0);
        scene.mesh.kill(1);
        DUE.is("dead", scene.mesh.node(1, 11), 1);
    }

    private static void nextOfNone() {
        DUE.sentence("next: 0 when it has none, one is no node, or both are the same");
        Scene scene = new Scene(1, 30, 9, 0, 1, 2, 1, 2, 2).ticks(160);
        DUE.is("next(0, 2)", scene.mesh.next(0, 2), 2);
        DUE.is("next(1, 2)", scene.mesh.next(1, 2), 3);
        DUE.is("none", scene.mesh.next(2, 1), 0);
        DUE.is("none for the root", scene.mesh.next(1, 0), 0);
        DUE.is("none for 6", scene.mesh.next(0, 6), 0);
        for (int a = 0; a < 7; a++) {
            DUE.is("the same", scene.mesh.next(a, a), 0);
        }
        for (int bad : NO_NODES) {
            DUE.is("next(" + bad + ", 1)", scene.mesh.next(bad, 1), 0);
            DUE.is("next(0, " + bad + ")", scene.mesh.next(0, bad), 0);
            DUE.is("next(" + bad + ", " + bad + ")", scene.mesh.next(bad, bad), 0);
        }
    }

    private static void knownOfNone() {
        DUE.sentence("known: 0 when it knows none, one is no node, or both are the same");
        Scene scene = new Scene(1, 30, 9, 0, 1, 2, 1, 2, 2).ticks(160);
        DUE.is("known(1, 0)", scene.mesh.known(1, 0), 1);
        DUE.is("known(1, 2)", scene.mesh.known(1, 2), 5);
        DUE.is("none", scene.mesh.known(2, 0), 0);
        DUE.is("none of 6", scene.mesh.known(0, 6), 0);
        for (int a = 0; a < 7; a++) {
            DUE.is("the same", scene.mesh.known(a, a), 0);
        }
        for (int bad : NO_NODES) {
            DUE.is("known(" + bad + ", 1)", scene.mesh.known(bad, 1), 0);
            DUE.is("known(0, " + bad + ")", scene.mesh.known(0, bad), 0);
            DUE.is("known(" + bad + ", " + bad + ")", scene.mesh.known(bad, bad), 0);
        }
    }

    private static void deliveredOfNone() {
        DUE.sentence("delivered: 0 when there is none");
        Scene scene = pair();
        DUE.is("delivered(0, -1)", scene.mesh.delivered(0, -1), 0);
        DUE.is("delivered(0, 0)", scene.mesh.delivered(0, 0), 0);
        scene.mesh.send(1, 0, 15, 5);
        scene.ticks(10);
        DUE.is("the only one", scene.mesh.delivered(0, 0), 1005);
        DUE.is("how many", scene.mesh.delivered(0, -1), 1);
        DUE.is("before it", scene.mesh.delivered(0, 1), 0);
        for (int k : new int[] {-2, 8, 9, Integer.MIN_VALUE, Integer.MAX_VALUE}) {
            DUE.is("delivered(0, " + k + ")", scene.mesh.delivered(0, k), 0);
        }
        for (int bad : NO_NODES) {
            DUE.is("delivered(" + bad + ", -1)", scene.mesh.delivered(bad, -1), 0);
            DUE.is("delivered(" + bad + ", 0)", scene.mesh.delivered(bad, 0), 0);
        }
    }

    private static void deliveredKeepsEight() {
        DUE.sentence("delivered: the k-th from the latest (k 0 .. 7), and 1000 times its source");
        Scene scene = new Scene(1, 30, 9, 0, 1, 2, 0, 2, 2).withoutOthers().ticks(150);
        for (int i = 1; i <= 20; i++) {
            int source = 1 + i % 2;
            scene.mesh.send(source, 0, 15, 100 + i);
            for (int t = 0; t < 40 && scene.mesh.delivered(0, -1) < i; t++) {
                scene.mesh.tick(1);
            }
            DUE.is("how many", scene.mesh.delivered(0, -1), i);
            for (int k = 0; k < 10; k++) {
                int due = k > 7 || k >= i ? 0 : (1 + (i - k) % 2) * 1000 + 100 + i - k;
                DUE.is("of " + i + ", delivered(0, " + k + ")", scene.mesh.delivered(0, k), due);
            }
        }
        for (int k : new int[] {-2, -3, -8, -9, Integer.MIN_VALUE, Integer.MIN_VALUE + 20, Integer.MAX_VALUE, 16}) {
            DUE.is("delivered(0, " + k + ")", scene.mesh.delivered(0, k), 0);
        }
        DUE.is("in all", scene.mesh.count(1), 20);
    }

    private static void countOfOthers() {
        DUE.sentence("count: 0 for others");
        Scene scene = pair();
        scene.mesh.send(0, 5, 15, 1);
        scene.mesh.send(1, 0, 15, 1);
        scene.ticks(10);
        DUE.is("count(0)", scene.mesh.count(0), 1);
        DUE.is("count(1)", scene.mesh.count(1), 1);
        DUE.is("count(2)", scene.mesh.count(2) > 1, true);
        for (int what : new int[] {-1, 3, 4, Integer.MIN_VALUE, Integer.MAX_VALUE}) {
            DUE.is("count(" + what + ")", scene.mesh.count(what), 0);
        }
    }

    private static void countOfFramesButAcknowledgements() {
        DUE.sentence("count: 2 how many frames were on the air (each time anew), but acknowledgements");
        Scene scene = pair();
        int aired = scene.aired();
        scene.mesh.send(1, 0, 15, 1);
        scene.ready(1);
        DUE.is("not yet", scene.aired(), aired);
        scene.mesh.tick(1);
        DUE.is("on the air", scene.aired(), aired + 1);
        scene.mesh.tick(1);
        DUE.is("an acknowledgement", scene.aired(), aired + 1);
        scene.link(0, 1, 0);
        scene.mesh.send(1, 0, 15, 1);
        scene.until(1, 9, 2);
        DUE.is("twice anew", scene.aired(), aired + 3);
    }

    /** Of each object exactly 512 calls, some of 100 ticks; PlainMesh tells what is due up to the last. */
    private static void fiveHundredAndTwelveCalls() {
        DUE.sentence("An object is used for at most 512 calls after it has been made");
        for (int seed = 0; seed < 6; seed++) {
            TrickleMesh mesh = new TrickleMesh(seed, 200, 2);
            PlainMesh plain = new PlainMesh(seed, 200, 2);
            for (int i = 0; i < 512; i++) {
                int a = i % 7;
                int b = (i + 1 + seed) % 7;
                if (i < 12) {
                    DUE.is("call " + i + ", link", mesh.link(a, b, 1 + i % 9), plain.link(a, b, 1 + i % 9));
                } else if (i % 8 == 7) {
                    DUE.is("call " + i + ", send", mesh.send(a, b, 15, i), plain.send(a, b, 15, i));
                } else if (i % 64 == 60) {
                    DUE.is("call " + i + ", repair", mesh.repair(), plain.repair());
                } else if (i % 8 == 6) {
                    DUE.is("call " + i + ", node", mesh.node(a, i % 13), plain.node(a, i % 13));
                } else if (i % 8 == 5) {
                    DUE.is("call " + i + ", count", mesh.count(2), plain.count(2));
                } else {
                    DUE.is("call " + i + ", tick", mesh.tick(100), plain.tick(100));
                }
            }
        }
        TrickleMesh mesh = new TrickleMesh(1, 200, 9);
        for (int i = 1; i <= 512; i++) {
            DUE.is("512 calls of 100 ticks", mesh.tick(100), i * 100);
        }
    }

    private static void laterCallsDoNotThrow() {
        DUE.sentence("what later calls answer is free (but they end and do not throw)");
        TrickleMesh mesh = new TrickleMesh(1, 200, 9);
        for (int i = 0; i < 4000; i++) {
            mesh.link(i % 7, (i + 1) % 7, i % 10);
            mesh.send(i % 7, (i + 2) % 7, 15, i % 1000);
            mesh.tick(i % 101);
            mesh.delivered(i % 7, i % 9 - 1);
            mesh.node(i % 8, i % 14);
        }
        DUE.is("came to the end", true, true);
    }
}
